section YN
variable {f_count f_hostW f_hostH f_focus f_resW f_resH : Int32} {a_kind a_val a_tk a_tv a_live a_wasLive a_rx a_ry a_rw a_rh a_oldW a_oldH a_row a_col a_top a_bot a_mode a_p1 a_p2 a_k a_cells a_sx a_sy a_sw a_sh a_mw a_mh : Nat → Int32}
variable {c : Nat} {nd en : Nat → Nat}
theorem yw_lay42 {post : Int32 → SY → Prop} {tr tc : Int32} {lw lh xx xy xw xh : Nat → Int32} (P : ps_P c a_kind en) (Kd : la_K c a_kind a_val) (hc : c ≤ 15) (hnd : ∀ i, i < c → a_kind i = 0 → nd i < 8 ∧ a_val i = nI (nd i)) (ND : ∀ a b, a < c → b < c → nd a = nd b → a = b)
    (L : la_L c a_kind nd en lw lh) (E : ∀ i, i < c → la_e a_kind a_val nd en lw lh xx xy xw xh i)
    (K : ∀ (rW rH : Int32) (rx ry rw rh sx sy sw sh mw mh : Nat → Int32), (∀ q, q < c → a_kind q = 0 → rx (nd q) = xx (nd q) ∧ ry (nd q) = xy (nd q) ∧ rw (nd q) = xw (nd q) ∧ rh (nd q) = xh (nd q)) →
      post (la_F a_kind nd xx xy xw xh tr tc c) (nI c, f_hostW, f_hostH, f_focus, rW, rH, a_kind, a_val, a_tk, a_tv, a_live, a_wasLive, rx, ry, rw, rh, a_oldW, a_oldH, a_row, a_col, a_top, a_bot, a_mode, a_p1, a_p2, a_k, a_cells, sx, sy, sw, sh, mw, mh)) :
    ∀ (d i : Nat), i + d = c → ∀ (sp : Nat) (rW rH : Int32) (rx ry rw rh sx sy sw sh mw mh : Nat → Int32), ps_st en (fun t q => sx t = xx (nd q) ∧ sy t = xy (nd q) ∧ sw t = xw (nd q) ∧ sh t = xh (nd q)) c sp i →
      (∀ q, q < i → a_kind q = 0 → rx (nd q) = xx (nd q) ∧ ry (nd q) = xy (nd q) ∧ rw (nd q) = xw (nd q) ∧ rh (nd q) = xh (nd q)) →
      wY_layout_42 post tr tc (d + 1) (la_F a_kind nd xx xy xw xh tr tc i) (nI sp) (nI i) (nI c) f_hostW f_hostH f_focus rW rH a_kind a_val a_tk a_tv a_live a_wasLive rx ry rw rh a_oldW a_oldH a_row a_col a_top a_bot a_mode a_p1 a_p2 a_k a_cells sx sy sw sh mw mh := by
  intro d
  induction d with
  | zero =>
    intro i hi sp rW rH rx ry rw rh sx sy sw sh mw mh S R
    have e : i = c := by omega
    subst e
    obtain ⟨n, hn, en'⟩ := la_Fn (kd := a_kind) (nd := nd) (rx := xx) (ry := xy) (rw := xw) (rh := xh) (tr := tr) (tc := tc) i
    exact br_t (nI_le (Nat.le_refl _) (by omega)) ⟨by rw [en']; exact (pk_charN hn).1, K _ _ _ _ _ _ _ _ _ _ _ _ R⟩
  | succ d ih =>
    intro i hid sp rW rH rx ry rw rh sx sy sw sh mw mh S R
    have hi : i < c := by omega
    obtain ⟨t, rfl⟩ := ps_st_pos S hi
    have len := ps_st_len P (Nat.le_refl _) S
    have ct : (nI t).toNatClampNeg = t := cg_16 (by omega)
    have ci : (nI i).toNatClampNeg = i := cg_16 (by omega)
    have vt : vp_in (nI t) 16 := vi_16 (by omega)
    have vi : vp_in (nI i) 16 := vi_16 (by omega)
    obtain ⟨s1, s2, s3, s4⟩ := S.2.1
    have u2 : ∀ (f : Nat → Int32) (x y : Int32), upd (upd f t x) (t + 1) y t = x := fun f x y => by rw [pk_un (by omega), pk_us]
    refine br_f (nI_ge hi (by omega)) (br_t (nI_lt (a := 0) (b := t + 1) (by omega) (by omega)) (nm_r (pk_m1 t) ⟨vt, nm_r (e' := xx (nd i)) (by rw [ct]; exact s1) ⟨vt, nm_r (e' := xy (nd i)) (by rw [ct]; exact s2) ⟨vt, nm_r (e' := xw (nd i)) (by rw [ct]; exact s3) ⟨vt, nm_r (e' := xh (nd i)) (by rw [ct]; exact s4) ⟨vi, ?_⟩⟩⟩⟩⟩))
    rw [ci]
    by_cases z : a_kind i = 0
    · obtain ⟨n8, nv⟩ := hnd i hi z
      have v8 := vi_8 n8
      have c8 := cg_8 n8
      refine br_t z ⟨vi, nm_r (e' := nI (nd i)) nv (br_f (nI_pos (by omega)) (br_f (nI_ge (b := 8) n8 (by omega)) ⟨v8, nm_r (e' := upd rx (nd i) (xx (nd i))) (by rw [c8]) ⟨v8, nm_r (e' := upd ry (nd i) (xy (nd i))) (by rw [c8]) ⟨v8, nm_r (e' := upd rw (nd i) (xw (nd i))) (by rw [c8]) ⟨v8, nm_r (e' := upd rh (nd i) (xh (nd i))) (by rw [c8]) (nm_r (nI_1 i) ?_)⟩⟩⟩⟩))⟩
      rw [← la_F0 (nd := nd) (rx := xx) (ry := xy) (rw := xw) (rh := xh) (tr := tr) (tc := tc) z]
      refine ih (i + 1) (by omega) t _ _ _ _ _ _ _ _ _ _ _ _ ?_ ?_
      · have h := S.2.2
        rw [ps_lf P hi z] at h
        exact h
      · intro q hq hkq
        by_cases e : q = i
        · subst e; rw [pk_us, pk_us, pk_us, pk_us]; exact ⟨rfl, rfl, rfl, rfl⟩
        · have ne : nd q ≠ nd i := fun y => e (ND _ _ (by omega) hi y)
          rw [pk_un ne, pk_un ne, pk_un ne, pk_un ne]; exact R q (by omega) hkq
    · obtain ⟨a1, a2, a3, a4, a5, a6⟩ := ps_nd P hi z
      have R' : ∀ q, q < i + 1 → a_kind q = 0 → rx (nd q) = xx (nd q) ∧ ry (nd q) = xy (nd q) ∧ rw (nd q) = xw (nd q) ∧ rh (nd q) = xh (nd q) := by
        intro q hq hkq
        have e : q ≠ i := fun y => z (by rw [← y]; exact hkq)
        exact R q (by omega) hkq
      refine br_f z (nm_r (nI_1 i) (yw_subEnd P hc rfl a5 (yw_mins P Kd hc rfl L a5 (fun mw1 mh1 => yw_mins P Kd hc rfl L a6 (fun mw2 mh2 => br_t (nI_le (b := 14) (by omega) (by omega)) ⟨vi, ?_⟩)))))
      rcases Kd i hi with y | ⟨y | y, _⟩
      · exact absurd y z
      · obtain ⟨g1, g2, g3, g4, g5, g6, g7, g8⟩ := (E i hi).1 y
        refine br_t y ⟨vi, by decide, nm_e ?_⟩
        have eF : la_F a_kind nd xx xy xw xh tr tc (i + 1) = if tc = xx (nd i) + la_v (xw (nd i)) (a_val i) (lw (nd (i + 1))) (lw (nd (en (i + 1)))) ∧ xy (nd i) ≤ tr ∧ tr < xy (nd i) + xh (nd i) then 124 else la_F a_kind nd xx xy xw xh tr tc i := by
          show (if a_kind i = 1 then (if tc = xx (nd i) + xw (nd (i + 1)) ∧ xy (nd i) ≤ tr ∧ tr < xy (nd i) + xh (nd i) then (124 : Int32) else la_F a_kind nd xx xy xw xh tr tc i) else _) = _
          rw [if_pos y, g3]
        have NX : ∀ zz, la_v (xw (nd i)) (a_val i) (lw (nd (i + 1))) (lw (nd (en (i + 1)))) = la_mn zz (xw (nd i) - 1 - lw (nd (en (i + 1)))) → wY_layout_267 post (wY_layout_42 post tr tc (d + 1)) tr tc (la_F a_kind nd xx xy xw xh tr tc i) (nI t) (nI i) (xx (nd i)) (xy (nd i)) (xw (nd i)) (xh (nd i)) (lw (nd (en (i + 1)))) zz (nI c) f_hostW f_hostH f_focus (lw (nd (en (i + 1)))) (lh (nd (en (i + 1)))) a_kind a_val a_tk a_tv a_live a_wasLive rx ry rw rh a_oldW a_oldH a_row a_col a_top a_bot a_mode a_p1 a_p2 a_k a_cells sx sy sw sh mw2 mh2 := by
          intro zz hz
          refine yw_267 (by omega) hz ?_
          rw [← eF]
          refine ih (i + 1) (by omega) (t + 2) _ _ _ _ _ _ _ _ _ _ _ _ ?_ R'
          refine ps_st_node P (Nat.le_refl _) hi z (ps_st_mono (fun t' j ht h => ?_) S.2.2) ?_ ?_
          · rw [pk_un (by omega), pk_un (by omega), pk_un (by omega), pk_un (by omega), pk_un (by omega), pk_un (by omega), pk_un (by omega), pk_un (by omega)]; exact h
          · rw [pk_us, pk_us, pk_us, pk_us]; exact ⟨g1.symm, g2.symm, g3.symm, g4.symm⟩
          · rw [u2, u2, u2, u2]; exact ⟨g5.symm, g6.symm, g7.symm, g8.symm⟩
        by_cases hz : lw (nd (i + 1)) ≤ (xw (nd i) - 1) * a_val i / 100
        · refine br_t hz (NX _ ?_)
          unfold la_v
          rw [la_mx2.1 hz]
        · refine br_f hz (NX _ ?_)
          unfold la_v
          rw [la_mx2.2 hz]
      · obtain ⟨g1, g2, g3, g4, g5, g6, g7, g8⟩ := (E i hi).2 y
        have y1 : ¬ a_kind i = 1 := fun h => ge_12 h y
        refine br_f y1 ⟨vi, by decide, nm_e ?_⟩
        have eF : la_F a_kind nd xx xy xw xh tr tc (i + 1) = if tr = xy (nd i) + la_v (xh (nd i)) (a_val i) (lh (nd (i + 1))) (lh (nd (en (i + 1)))) ∧ xx (nd i) ≤ tc ∧ tc < xx (nd i) + xw (nd i) then 45 else la_F a_kind nd xx xy xw xh tr tc i := by
          show (if a_kind i = 1 then _ else if a_kind i = 2 then (if tr = xy (nd i) + xh (nd (i + 1)) ∧ xx (nd i) ≤ tc ∧ tc < xx (nd i) + xw (nd i) then (45 : Int32) else la_F a_kind nd xx xy xw xh tr tc i) else _) = _
          rw [if_neg y1, if_pos y, g4]
        have NX : ∀ zz, la_v (xh (nd i)) (a_val i) (lh (nd (i + 1))) (lh (nd (en (i + 1)))) = la_mn zz (xh (nd i) - 1 - lh (nd (en (i + 1)))) → wY_layout_434 post (wY_layout_42 post tr tc (d + 1)) tr tc (la_F a_kind nd xx xy xw xh tr tc i) (nI t) (nI i) (xx (nd i)) (xy (nd i)) (xw (nd i)) (xh (nd i)) (lh (nd (en (i + 1)))) zz (nI c) f_hostW f_hostH f_focus (lw (nd (en (i + 1)))) (lh (nd (en (i + 1)))) a_kind a_val a_tk a_tv a_live a_wasLive rx ry rw rh a_oldW a_oldH a_row a_col a_top a_bot a_mode a_p1 a_p2 a_k a_cells sx sy sw sh mw2 mh2 := by
          intro zz hz
          refine yw_434 (by omega) hz ?_
          rw [← eF]
          refine ih (i + 1) (by omega) (t + 2) _ _ _ _ _ _ _ _ _ _ _ _ ?_ R'
          refine ps_st_node P (Nat.le_refl _) hi z (ps_st_mono (fun t' j ht h => ?_) S.2.2) ?_ ?_
          · rw [pk_un (by omega), pk_un (by omega), pk_un (by omega), pk_un (by omega), pk_un (by omega), pk_un (by omega), pk_un (by omega), pk_un (by omega)]; exact h
          · rw [pk_us, pk_us, pk_us, pk_us]; exact ⟨g1.symm, g2.symm, g3.symm, g4.symm⟩
          · rw [u2, u2, u2, u2]; exact ⟨g5.symm, g6.symm, g7.symm, g8.symm⟩
        by_cases hz : lh (nd (i + 1)) ≤ (xh (nd i) - 1) * a_val i / 100
        · refine br_t hz (NX _ ?_)
          unfold la_v
          rw [la_mx2.1 hz]
        · refine br_f hz (NX _ ?_)
          unfold la_v
          rw [la_mx2.2 hz]
/-- the reference's layout finds the same rectangles for the leaves -/
theorem yw_layout {post : Int32 → SY → Prop} {tr tc : Int32} {lw lh xx xy xw xh : Nat → Int32} (P : ps_P c a_kind en) (Kd : la_K c a_kind a_val) (hc : c ≤ 15) (hcount : f_count = nI c) (hnd : ∀ i, i < c → a_kind i = 0 → nd i < 8 ∧ a_val i = nI (nd i)) (ND : ∀ a b, a < c → b < c → nd a = nd b → a = b)
    (L : la_L c a_kind nd en lw lh) (E : la_E c a_kind a_val nd en lw lh xx xy xw xh f_hostW f_hostH)
    (K : ∀ (rW rH : Int32) (rx ry rw rh sx sy sw sh mw mh : Nat → Int32), (∀ q, q < c → a_kind q = 0 → rx (nd q) = xx (nd q) ∧ ry (nd q) = xy (nd q) ∧ rw (nd q) = xw (nd q) ∧ rh (nd q) = xh (nd q)) →
      post (la_F a_kind nd xx xy xw xh tr tc c) (f_count, f_hostW, f_hostH, f_focus, rW, rH, a_kind, a_val, a_tk, a_tv, a_live, a_wasLive, rx, ry, rw, rh, a_oldW, a_oldH, a_row, a_col, a_top, a_bot, a_mode, a_p1, a_p2, a_k, a_cells, sx, sy, sw, sh, mw, mh)) : wpY_layout post (f_count, f_hostW, f_hostH, f_focus, f_resW, f_resH, a_kind, a_val, a_tk, a_tv, a_live, a_wasLive, a_rx, a_ry, a_rw, a_rh, a_oldW, a_oldH, a_row, a_col, a_top, a_bot, a_mode, a_p1, a_p2, a_k, a_cells, a_sx, a_sy, a_sw, a_sh, a_mw, a_mh) tr tc := by
  subst hcount
  obtain ⟨E1, E2, E3, E4, E5⟩ := E
  refine nm_e (nm_e (nm_e (nm_e ⟨c + 1, yw_lay42 P Kd hc hnd ND L E5 K c 0 (by omega) 1 _ _ _ _ _ _ _ _ _ _ _ _ ?_ (fun q h => by omega)⟩)))
  refine ⟨P.1, ?_, P.2.1⟩
  dsimp only
  rw [pk_us, pk_us, pk_us, pk_us]
  exact ⟨E1.symm, E2.symm, E3.symm, E4.symm⟩
end YN
