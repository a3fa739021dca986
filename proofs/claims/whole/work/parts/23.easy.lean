/-- no live pane has this id -/
def pd_D (lv : Nat → Int32) (p : Int32) : Prop := p < 0 ∨ nI 8 ≤ p ∨ ∃ g, g < 8 ∧ p = nI g ∧ lv g = 0
theorem pd_or (lv : Nat → Int32) (p : Int32) : pd_D lv p ∨ ∃ g, g < 8 ∧ p = nI g ∧ lv g ≠ 0 := by
  rcases pk_ix p (n := 8) (by omega) with h | h | ⟨g, hg, e⟩
  · exact Or.inl (Or.inl h)
  · exact Or.inl (Or.inr (Or.inl h))
  · by_cases z : lv g = 0
    · exact Or.inl (Or.inr (Or.inr ⟨g, hg, e, z⟩))
    · exact Or.inr ⟨g, hg, e, z⟩
theorem pd_br {lv : Nat → Int32} {p : Int32} {A : Prop} (D : pd_D lv p) (K : A) {B : Prop} : (p < 0 → A) ∧ (¬ p < 0 → ((8 ≤ p → A) ∧ (¬ 8 ≤ p → (vp_in p 8 ∧ ((lv p.toNatClampNeg = 0 → A) ∧ (¬ lv p.toNatClampNeg = 0 → B)))))) := by
  refine ⟨fun _ => K, fun h0 => ⟨fun _ => K, fun h8 => ?_⟩⟩
  rcases D with h | h | ⟨g, hg, e, z⟩
  · exact absurd h h0
  · exact absurd h h8
  · subst e
    exact ⟨vi_8 hg, fun _ => K, fun y => absurd (by rw [cg_8 hg]; exact z) y⟩
theorem pd_bl {lv : Nat → Int32} {g : Nat} {A B : Prop} (hg : g < 8) (hl : lv g ≠ 0) (K : B) : (nI g < 0 → A) ∧ (¬ nI g < 0 → ((8 ≤ nI g → A) ∧ (¬ 8 ≤ nI g → (vp_in (nI g) 8 ∧ ((lv (nI g).toNatClampNeg = 0 → A) ∧ (¬ lv (nI g).toNatClampNeg = 0 → B)))))) :=
  br_f (nI_pos (by omega)) (br_f (nI_ge (b := 8) hg (by omega)) ⟨vi_8 hg, br_f (by rw [cg_8 hg]; exact hl) K⟩)
section EZ
variable {f_hostWidth f_hostHeight f_root f_focusedPane f_liveCount : Int32} {a_parent a_first a_second a_orientation a_share a_leastWidth a_leastHeight a_rectX a_rectY a_rectW a_rectH a_order a_live a_screenWidth a_screenHeight a_cursorRow a_cursorCol a_regionTop a_regionBottom a_parserMode a_paramOne a_paramTwo a_paramIndex a_cells : Nat → Int32} {f_count f_hostW f_hostH f_focus f_resW f_resH : Int32} {a_kind a_val a_tk a_tv b_live a_wasLive a_rx a_ry a_rw a_rh a_oldW a_oldH a_row a_col a_top a_bot a_mode a_p1 a_p2 a_k b_cells a_sx a_sy a_sw a_sh a_mw a_mh : Nat → Int32}
theorem xw_dead {post : Int32 → Prop} {p : Int32} (D : pd_D a_live p) (K : post 0) : wpX_isLive post (f_hostWidth, f_hostHeight, f_root, f_focusedPane, f_liveCount, a_parent, a_first, a_second, a_orientation, a_share, a_leastWidth, a_leastHeight, a_rectX, a_rectY, a_rectW, a_rectH, a_order, a_live, a_screenWidth, a_screenHeight, a_cursorRow, a_cursorCol, a_regionTop, a_regionBottom, a_parserMode, a_paramOne, a_paramTwo, a_paramIndex, a_cells) p := pd_br D K
theorem xw_live {post : Int32 → Prop} {g : Nat} (hg : g < 8) (hl : a_live g ≠ 0) (K : post 1) : wpX_isLive post (f_hostWidth, f_hostHeight, f_root, f_focusedPane, f_liveCount, a_parent, a_first, a_second, a_orientation, a_share, a_leastWidth, a_leastHeight, a_rectX, a_rectY, a_rectW, a_rectH, a_order, a_live, a_screenWidth, a_screenHeight, a_cursorRow, a_cursorCol, a_regionTop, a_regionBottom, a_parserMode, a_paramOne, a_paramTwo, a_paramIndex, a_cells) (nI g) := pd_bl hg hl K
theorem yw_dead {post : Int32 → Prop} {p : Int32} (D : pd_D b_live p) (K : post 0) : wpY_isLive post (f_count, f_hostW, f_hostH, f_focus, f_resW, f_resH, a_kind, a_val, a_tk, a_tv, b_live, a_wasLive, a_rx, a_ry, a_rw, a_rh, a_oldW, a_oldH, a_row, a_col, a_top, a_bot, a_mode, a_p1, a_p2, a_k, b_cells, a_sx, a_sy, a_sw, a_sh, a_mw, a_mh) p := pd_br D K
theorem yw_live {post : Int32 → Prop} {g : Nat} (hg : g < 8) (hl : b_live g ≠ 0) (K : post 1) : wpY_isLive post (f_count, f_hostW, f_hostH, f_focus, f_resW, f_resH, a_kind, a_val, a_tk, a_tv, b_live, a_wasLive, a_rx, a_ry, a_rw, a_rh, a_oldW, a_oldH, a_row, a_col, a_top, a_bot, a_mode, a_p1, a_p2, a_k, b_cells, a_sx, a_sy, a_sw, a_sh, a_mw, a_mh) (nI g) := pd_bl hg hl K
theorem yw_count {post : Int32 → Prop} (K : post (nI (cc_n (fun g => b_live g ≠ 0) 8))) : wpY_paneCount post (f_count, f_hostW, f_hostH, f_focus, f_resW, f_resH, a_kind, a_val, a_tk, a_tv, b_live, a_wasLive, a_rx, a_ry, a_rw, a_rh, a_oldW, a_oldH, a_row, a_col, a_top, a_bot, a_mode, a_p1, a_p2, a_k, b_cells, a_sx, a_sy, a_sw, a_sh, a_mw, a_mh) := by
  refine pk_loop (fun n i s => wY_paneCount_4 post f_count f_hostW f_hostH f_focus f_resW f_resH a_kind a_val a_tk a_tv b_live a_wasLive a_rx a_ry a_rw a_rh a_oldW a_oldH a_row a_col a_top a_bot a_mode a_p1 a_p2 a_k b_cells a_sx a_sy a_sw a_sh a_mw a_mh n (nI s) (nI i)) (fun i s => s = cc_n (fun g => b_live g ≠ 0) i) 8 0 0 (by omega) rfl ?_ ?_
  · intro n s hs
    refine br_t (nI_le (a := 8) (Nat.le_refl _) (by omega)) ?_
    rw [hs]
    exact K
  · intro n i s hi hs k
    refine br_f (nI_ge (b := 8) hi (by omega)) ⟨vi_8 hi, ?_⟩
    rw [cg_8 hi]
    by_cases z : b_live i = 0
    · refine br_t z (nm_r (nI_1 i) (k _ ?_))
      rw [cc_s, cc_bf (P := b_live i ≠ 0) (fun y => y z), hs, Nat.add_zero]
    · refine br_f z (nm_r (nI_1 s) (nm_r (nI_1 i) (k _ ?_)))
      rw [cc_s, cc_bt (P := b_live i ≠ 0) z, hs]
end EZ
theorem i_vc_focus {k : Nat} {u : SX} {v : SY} (I : i_Rel k u v) (hk : k + 4 ≤ 2050) (v1 : Int32) : wpX_focus (fun r u' => wpY_focus (fun r' v' => r' = r ∧ i_Rel (k + 4) u' v') v v1) u v1 := by
  obtain ⟨f_hostWidth, f_hostHeight, f_root, f_focusedPane, f_liveCount, a_parent, a_first, a_second, a_orientation, a_share, a_leastWidth, a_leastHeight, a_rectX, a_rectY, a_rectW, a_rectH, a_order, a_live, a_screenWidth, a_screenHeight, a_cursorRow, a_cursorCol, a_regionTop, a_regionBottom, a_parserMode, a_paramOne, a_paramTwo, a_paramIndex, a_cells⟩ := u
  obtain ⟨f_count, f_hostW, f_hostH, f_focus, f_resW, f_resH, a_kind, a_val, a_tk, a_tv, b_live, a_wasLive, a_rx, a_ry, a_rw, a_rh, a_oldW, a_oldH, a_row, a_col, a_top, a_bot, a_mode, a_p1, a_p2, a_k, b_cells, a_sx, a_sy, a_sw, a_sh, a_mw, a_mh⟩ := v
  obtain ⟨c, nd, en, po, w0, h0, f, J⟩ := I
  have J0 := J
  obtain ⟨rfl, rfl, rfl, rfl, rfl, j6, rfl, rfl, j9, j10, rfl, rfl, rfl, rfl, rfl, rfl, rfl, rfl, rfl, G, Pn⟩ := J
  unfold wpX_focus wpY_focus
  rcases pd_or a_live v1 with D | ⟨g, hg, e, hl⟩
  · exact xw_dead D (br_t rfl (yw_dead D (br_t rfl ⟨rfl, c, nd, en, po, w0, h0, f, J0⟩)))
  · subst e
    refine xw_live hg hl (br_f (by decide) (yw_live hg hl (br_f (by decide) ⟨rfl, c, nd, en, po, w0, h0, g, ?_⟩)))
    exact ⟨rfl, rfl, rfl, rfl, rfl, hg, rfl, rfl, hl, j10, rfl, rfl, rfl, rfl, rfl, rfl, rfl, rfl, rfl, G, Pn⟩
theorem i_vc_focused {k : Nat} {u : SX} {v : SY} (I : i_Rel k u v) (hk : k + 4 ≤ 2050) : wpX_focused (fun r => wpY_focused (fun r' => r' = r ∧ i_Rel (k + 4) u v) v) u := by
  obtain ⟨f_hostWidth, f_hostHeight, f_root, f_focusedPane, f_liveCount, a_parent, a_first, a_second, a_orientation, a_share, a_leastWidth, a_leastHeight, a_rectX, a_rectY, a_rectW, a_rectH, a_order, a_live, a_screenWidth, a_screenHeight, a_cursorRow, a_cursorCol, a_regionTop, a_regionBottom, a_parserMode, a_paramOne, a_paramTwo, a_paramIndex, a_cells⟩ := u
  obtain ⟨f_count, f_hostW, f_hostH, f_focus, f_resW, f_resH, a_kind, a_val, a_tk, a_tv, b_live, a_wasLive, a_rx, a_ry, a_rw, a_rh, a_oldW, a_oldH, a_row, a_col, a_top, a_bot, a_mode, a_p1, a_p2, a_k, b_cells, a_sx, a_sy, a_sw, a_sh, a_mw, a_mh⟩ := v
  have I0 := I
  obtain ⟨c, nd, en, po, w0, h0, f, J⟩ := I
  exact ⟨J.2.2.2.2.2.2.2.1.symm, I0⟩
theorem i_vc_paneCount {k : Nat} {u : SX} {v : SY} (I : i_Rel k u v) (hk : k + 4 ≤ 2050) : wpX_paneCount (fun r => wpY_paneCount (fun r' => r' = r ∧ i_Rel (k + 4) u v) v) u := by
  obtain ⟨f_hostWidth, f_hostHeight, f_root, f_focusedPane, f_liveCount, a_parent, a_first, a_second, a_orientation, a_share, a_leastWidth, a_leastHeight, a_rectX, a_rectY, a_rectW, a_rectH, a_order, a_live, a_screenWidth, a_screenHeight, a_cursorRow, a_cursorCol, a_regionTop, a_regionBottom, a_parserMode, a_paramOne, a_paramTwo, a_paramIndex, a_cells⟩ := u
  obtain ⟨f_count, f_hostW, f_hostH, f_focus, f_resW, f_resH, a_kind, a_val, a_tk, a_tv, b_live, a_wasLive, a_rx, a_ry, a_rw, a_rh, a_oldW, a_oldH, a_row, a_col, a_top, a_bot, a_mode, a_p1, a_p2, a_k, b_cells, a_sx, a_sy, a_sw, a_sh, a_mw, a_mh⟩ := v
  have I0 := I
  obtain ⟨c, nd, en, po, w0, h0, f, J⟩ := I
  obtain ⟨rfl, rfl, rfl, rfl, rfl, j6, rfl, rfl, j9, j10, rfl, rfl, rfl, rfl, rfl, rfl, rfl, rfl, rfl, G, Pn⟩ := J
  exact yw_count ⟨j10.symm, I0⟩
theorem i_vc_hostSize {k : Nat} {u : SX} {v : SY} (I : i_Rel k u v) (hk : k + 4 ≤ 2050) (v1 : Int32) : wpX_hostSize (fun r => wpY_hostSize (fun r' => r' = r ∧ i_Rel (k + 4) u v) v v1) u v1 := by
  obtain ⟨f_hostWidth, f_hostHeight, f_root, f_focusedPane, f_liveCount, a_parent, a_first, a_second, a_orientation, a_share, a_leastWidth, a_leastHeight, a_rectX, a_rectY, a_rectW, a_rectH, a_order, a_live, a_screenWidth, a_screenHeight, a_cursorRow, a_cursorCol, a_regionTop, a_regionBottom, a_parserMode, a_paramOne, a_paramTwo, a_paramIndex, a_cells⟩ := u
  obtain ⟨f_count, f_hostW, f_hostH, f_focus, f_resW, f_resH, a_kind, a_val, a_tk, a_tv, b_live, a_wasLive, a_rx, a_ry, a_rw, a_rh, a_oldW, a_oldH, a_row, a_col, a_top, a_bot, a_mode, a_p1, a_p2, a_k, b_cells, a_sx, a_sy, a_sw, a_sh, a_mw, a_mh⟩ := v
  have I0 := I
  obtain ⟨c, nd, en, po, w0, h0, f, J⟩ := I
  obtain ⟨rfl, rfl, rfl, rfl, rfl, j6, rfl, rfl, j9, j10, rfl, rfl, rfl, rfl, rfl, rfl, rfl, rfl, rfl, G, Pn⟩ := J
  by_cases h2 : v1 = 2
  · exact br_t h2 (br_t h2 ⟨rfl, I0⟩)
  · by_cases h3 : v1 = 3
    · exact br_f h2 (br_t h3 (br_f h2 (br_t h3 ⟨rfl, I0⟩)))
    · exact br_f h2 (br_f h3 (br_f h2 (br_f h3 ⟨rfl, I0⟩)))
theorem i_vc_paneRect {k : Nat} {u : SX} {v : SY} (I : i_Rel k u v) (hk : k + 4 ≤ 2050) (v1 : Int32) (v2 : Int32) : wpX_paneRect (fun r => wpY_paneRect (fun r' => r' = r ∧ i_Rel (k + 4) u v) v v1 v2) u v1 v2 := by
  obtain ⟨f_hostWidth, f_hostHeight, f_root, f_focusedPane, f_liveCount, a_parent, a_first, a_second, a_orientation, a_share, a_leastWidth, a_leastHeight, a_rectX, a_rectY, a_rectW, a_rectH, a_order, a_live, a_screenWidth, a_screenHeight, a_cursorRow, a_cursorCol, a_regionTop, a_regionBottom, a_parserMode, a_paramOne, a_paramTwo, a_paramIndex, a_cells⟩ := u
  obtain ⟨f_count, f_hostW, f_hostH, f_focus, f_resW, f_resH, a_kind, a_val, a_tk, a_tv, b_live, a_wasLive, a_rx, a_ry, a_rw, a_rh, a_oldW, a_oldH, a_row, a_col, a_top, a_bot, a_mode, a_p1, a_p2, a_k, b_cells, a_sx, a_sy, a_sw, a_sh, a_mw, a_mh⟩ := v
  have I0 := I
  obtain ⟨c, nd, en, po, w0, h0, f, J⟩ := I
  obtain ⟨rfl, rfl, rfl, rfl, rfl, j6, rfl, rfl, j9, j10, rfl, rfl, rfl, rfl, rfl, rfl, rfl, rfl, rfl, G, Pn⟩ := J
  unfold wpX_paneRect wpY_paneRect
  rcases pd_or a_live v1 with D | ⟨g, hg, e, hl⟩
  · exact xw_dead D (br_t rfl (yw_dead D (br_t rfl ⟨rfl, I0⟩)))
  · subst e
    obtain ⟨a1, a2, a3, a4, _⟩ := Pn g hg hl
    have v8 := vi_8 hg
    have v15 : vp_in (nI g) 15 := vi_15 (by omega)
    rw [← cg_8 hg] at a1 a2 a3 a4
    refine xw_live hg hl (br_f (by decide) ?_)
    by_cases h0 : v2 = 0
    · subst h0
      exact br_f (by decide) (br_f (by decide) (br_t rfl ⟨v15, yw_live hg hl (br_f (by decide) (br_t rfl ⟨v8, a1, I0⟩))⟩))
    by_cases h1 : v2 = 1
    · subst h1
      exact br_f (by decide) (br_f (by decide) (br_f h0 (br_t rfl ⟨v15, yw_live hg hl (br_f (by decide) (br_f h0 (br_t rfl ⟨v8, a2, I0⟩)))⟩)))
    by_cases h2 : v2 = 2
    · subst h2
      exact br_f (by decide) (br_f (by decide) (br_f h0 (br_f h1 (br_t rfl ⟨v15, yw_live hg hl (br_f (by decide) (br_f h0 (br_f h1 (br_t rfl ⟨v8, a3, I0⟩))))⟩))))
    by_cases h3 : v2 = 3
    · subst h3
      exact br_f (by decide) (br_f (by decide) (br_f h0 (br_f h1 (br_f h2 (br_t rfl ⟨v15, yw_live hg hl (br_f (by decide) (br_f h0 (br_f h1 (br_f h2 (br_t rfl ⟨v8, a4, I0⟩)))))⟩)))))
    · exact br_c (fun _ => yw_live hg hl (br_f (by decide) (br_f h0 (br_f h1 (br_f h2 (br_f h3 ⟨rfl, I0⟩)))))) (fun _ => br_c (fun _ => yw_live hg hl (br_f (by decide) (br_f h0 (br_f h1 (br_f h2 (br_f h3 ⟨rfl, I0⟩)))))) (fun _ => br_f h0 (br_f h1 (br_f h2 (br_f h3 trivial)))))
theorem i_vc_paneState {k : Nat} {u : SX} {v : SY} (I : i_Rel k u v) (hk : k + 4 ≤ 2050) (v1 : Int32) (v2 : Int32) : wpX_paneState (fun r => wpY_paneState (fun r' => r' = r ∧ i_Rel (k + 4) u v) v v1 v2) u v1 v2 := by
  obtain ⟨f_hostWidth, f_hostHeight, f_root, f_focusedPane, f_liveCount, a_parent, a_first, a_second, a_orientation, a_share, a_leastWidth, a_leastHeight, a_rectX, a_rectY, a_rectW, a_rectH, a_order, a_live, a_screenWidth, a_screenHeight, a_cursorRow, a_cursorCol, a_regionTop, a_regionBottom, a_parserMode, a_paramOne, a_paramTwo, a_paramIndex, a_cells⟩ := u
  obtain ⟨f_count, f_hostW, f_hostH, f_focus, f_resW, f_resH, a_kind, a_val, a_tk, a_tv, b_live, a_wasLive, a_rx, a_ry, a_rw, a_rh, a_oldW, a_oldH, a_row, a_col, a_top, a_bot, a_mode, a_p1, a_p2, a_k, b_cells, a_sx, a_sy, a_sw, a_sh, a_mw, a_mh⟩ := v
  have I0 := I
  obtain ⟨c, nd, en, po, w0, h0, f, J⟩ := I
  obtain ⟨rfl, rfl, rfl, rfl, rfl, j6, rfl, rfl, j9, j10, rfl, rfl, rfl, rfl, rfl, rfl, rfl, rfl, rfl, G, Pn⟩ := J
  unfold wpX_paneState wpY_paneState
  rcases pd_or a_live v1 with D | ⟨g, hg, e, hl⟩
  · exact xw_dead D (br_t rfl (yw_dead D (br_t rfl ⟨rfl, I0⟩)))
  · subst e
    have v8 := vi_8 hg
    refine xw_live hg hl (br_f (by decide) ?_)
    by_cases h0 : v2 = 0
    · subst h0
      exact br_f (by decide) (br_f (by decide) (br_t rfl ⟨v8, yw_live hg hl (br_f (by decide) (br_t rfl ⟨v8, rfl, I0⟩))⟩))
    by_cases h1 : v2 = 1
    · subst h1
      exact br_f (by decide) (br_f (by decide) (br_f h0 (br_t rfl ⟨v8, yw_live hg hl (br_f (by decide) (br_f h0 (br_t rfl ⟨v8, rfl, I0⟩)))⟩)))
    by_cases h2 : v2 = 2
    · subst h2
      exact br_f (by decide) (br_f (by decide) (br_f h0 (br_f h1 (br_t rfl ⟨v8, yw_live hg hl (br_f (by decide) (br_f h0 (br_f h1 (br_t rfl ⟨v8, rfl, I0⟩))))⟩))))
    by_cases h3 : v2 = 3
    · subst h3
      exact br_f (by decide) (br_f (by decide) (br_f h0 (br_f h1 (br_f h2 (br_t rfl ⟨v8, yw_live hg hl (br_f (by decide) (br_f h0 (br_f h1 (br_f h2 (br_t rfl ⟨v8, rfl, I0⟩)))))⟩)))))
    by_cases h4 : v2 = 4
    · subst h4
      exact br_f (by decide) (br_f (by decide) (br_f h0 (br_f h1 (br_f h2 (br_f h3 (br_t rfl ⟨v8, yw_live hg hl (br_f (by decide) (br_f h0 (br_f h1 (br_f h2 (br_f h3 (br_t rfl ⟨v8, rfl, I0⟩))))))⟩))))))
    by_cases h5 : v2 = 5
    · subst h5
      exact br_f (by decide) (br_f (by decide) (br_f h0 (br_f h1 (br_f h2 (br_f h3 (br_f h4 (br_t rfl ⟨v8, yw_live hg hl (br_f (by decide) (br_f h0 (br_f h1 (br_f h2 (br_f h3 (br_f h4 (br_t rfl ⟨v8, rfl, I0⟩)))))))⟩)))))))
    by_cases h6 : v2 = 6
    · subst h6
      exact br_f (by decide) (br_f (by decide) (br_f h0 (br_f h1 (br_f h2 (br_f h3 (br_f h4 (br_f h5 (br_t rfl ⟨v8, yw_live hg hl (br_f (by decide) (br_f h0 (br_f h1 (br_f h2 (br_f h3 (br_f h4 (br_f h5 (br_t rfl ⟨v8, rfl, I0⟩))))))))⟩))))))))
    by_cases h7 : v2 = 7
    · subst h7
      exact br_f (by decide) (br_f (by decide) (br_f h0 (br_f h1 (br_f h2 (br_f h3 (br_f h4 (br_f h5 (br_f h6 (br_t rfl ⟨v8, yw_live hg hl (br_f (by decide) (br_f h0 (br_f h1 (br_f h2 (br_f h3 (br_f h4 (br_f h5 (br_f h6 (br_t rfl ⟨v8, rfl, I0⟩)))))))))⟩)))))))))
    exact br_c (fun _ => yw_live hg hl (br_f (by decide) (br_f h0 (br_f h1 (br_f h2 (br_f h3 (br_f h4 (br_f h5 (br_f h6 (br_f h7 ⟨rfl, I0⟩)))))))))) (fun _ => br_c (fun _ => yw_live hg hl (br_f (by decide) (br_f h0 (br_f h1 (br_f h2 (br_f h3 (br_f h4 (br_f h5 (br_f h6 (br_f h7 ⟨rfl, I0⟩)))))))))) (fun _ => (br_f h0 (br_f h1 (br_f h2 (br_f h3 (br_f h4 (br_f h5 (br_f h6 (br_f h7 trivial))))))))))
