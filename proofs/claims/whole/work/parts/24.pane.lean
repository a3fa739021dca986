section PC
variable {f_hostWidth f_hostHeight f_root f_focusedPane f_liveCount : Int32} {a_parent a_first a_second a_orientation a_share a_leastWidth a_leastHeight a_rectX a_rectY a_rectW a_rectH a_order a_live a_screenWidth a_screenHeight a_cursorRow a_cursorCol a_regionTop a_regionBottom a_parserMode a_paramOne a_paramTwo a_paramIndex a_cells : Nat → Int32} {f_count f_hostW f_hostH f_focus f_resW f_resH : Int32} {a_kind a_val a_tk a_tv b_live a_wasLive a_rx a_ry a_rw a_rh a_oldW a_oldH a_row a_col a_top a_bot a_mode a_p1 a_p2 a_k b_cells a_sx a_sy a_sw a_sh a_mw a_mh : Nat → Int32}
/-- paneChar of a live pane: one answer on both sides -/
theorem pc_val {g : Nat} (hg : g < 8) (hl : a_live g ≠ 0) (hlb : b_live = a_live) (pn : rl_p a_live a_rectX a_rectY a_rectW a_rectH a_screenWidth a_screenHeight a_rx a_ry a_rw a_rh a_cursorRow a_cursorCol a_regionTop a_regionBottom a_parserMode a_paramOne a_paramTwo a_paramIndex a_cells b_cells g) (p q : Int32) :
    ∃ r : Int32, (∀ post : Int32 → Prop, post r → wpX_paneChar post (f_hostWidth, f_hostHeight, f_root, f_focusedPane, f_liveCount, a_parent, a_first, a_second, a_orientation, a_share, a_leastWidth, a_leastHeight, a_rectX, a_rectY, a_rectW, a_rectH, a_order, a_live, a_screenWidth, a_screenHeight, a_cursorRow, a_cursorCol, a_regionTop, a_regionBottom, a_parserMode, a_paramOne, a_paramTwo, a_paramIndex, a_cells) (nI g) p q) ∧ (∀ post : Int32 → Prop, post r → wpY_paneChar post (f_count, f_hostW, f_hostH, f_focus, f_resW, f_resH, a_kind, a_val, a_tk, a_tv, b_live, a_wasLive, a_rx, a_ry, a_rw, a_rh, a_oldW, a_oldH, a_row, a_col, a_top, a_bot, a_mode, a_p1, a_p2, a_k, b_cells, a_sx, a_sy, a_sw, a_sh, a_mw, a_mh) (nI g) p q) ∧ narrow .char (.int r) = .int r := by
  subst hlb
  unfold wpX_paneChar wpY_paneChar
  obtain ⟨a1, a2, a3, a4, a5, a6, w, h, b1, b2, b3, b4, b5, b6, _, cr⟩ := pn hl
  have v8 := vi_8 hg
  have n0 : narrow .char (.int 0) = .int 0 := (pk_charN (q := 0) (by omega)).1
  rw [b1] at a3 a5
  rw [b2] at a4 a6
  rw [← cg_8 hg] at a3 a4 a5 a6
  by_cases hp : p < 0
  · exact ⟨0, fun _ K => xw_live hg hl (br_f (by decide) (br_t hp K)), fun _ K => yw_live hg hl (br_f (by decide) (br_t hp K)), n0⟩
  obtain ⟨i, hi, rfl⟩ := nI_of hp
  by_cases hih : h ≤ i
  · have z : nI h ≤ nI i := nI_le hih hi
    exact ⟨0, fun _ K => xw_live hg hl (br_f (by decide) (br_f hp ⟨v8, br_t (by rw [a6]; exact z) K⟩)), fun _ K => yw_live hg hl (br_f (by decide) (br_f hp ⟨v8, br_t (by rw [a4]; exact z) K⟩)), n0⟩
  have zh : ¬ nI h ≤ nI i := nI_ge (by omega) (by omega)
  by_cases hq : q < 0
  · exact ⟨0, fun _ K => xw_live hg hl (br_f (by decide) (br_f hp ⟨v8, br_f (by rw [a6]; exact zh) (br_t hq K)⟩)), fun _ K => yw_live hg hl (br_f (by decide) (br_f hp ⟨v8, br_f (by rw [a4]; exact zh) (br_t hq K)⟩)), n0⟩
  obtain ⟨j, hj, rfl⟩ := nI_of hq
  by_cases hjw : w ≤ j
  · have z : nI w ≤ nI j := nI_le hjw hj
    have z' : ¬ nI j < nI w := nI_nlt hjw hj
    exact ⟨0, fun _ K => xw_live hg hl (br_f (by decide) (br_f hp ⟨v8, br_f (by rw [a6]; exact zh) (br_f hq ⟨v8, br_f (by rw [a5]; exact z') K⟩)⟩)), fun _ K => yw_live hg hl (br_f (by decide) (br_f hp ⟨v8, br_f (by rw [a4]; exact zh) (br_f hq ⟨v8, br_t (by rw [a3]; exact z) K⟩)⟩)), n0⟩
  have zw : ¬ nI w ≤ nI j := nI_ge (by omega) (by omega)
  have zw' : nI j < nI w := nI_lt (by omega) (by omega)
  obtain ⟨e, ⟨n, hn, en⟩, _⟩ := cr (g * 288 + i * 24 + j) (by omega) (by omega)
  have ei := xc_i g i j
  have ec : (nI (g * 288 + i * 24 + j)).toNatClampNeg = g * 288 + i * 24 + j := nI_clamp (by omega)
  have vi : vp_in (nI (g * 288 + i * 24 + j)) 2304 := vp_in_nI (by omega) (by omega)
  refine ⟨nI n, fun post K => xw_live hg hl (br_f (by decide) (br_f hp ⟨v8, br_f (by rw [a6]; exact zh) (br_f hq ⟨v8, br_t (by rw [a5]; exact zw') (xw_ci ⟨vi, ?_⟩)⟩)⟩)), fun post K => yw_live hg hl (br_f (by decide) (br_f hp ⟨v8, br_f (by rw [a4]; exact zh) (br_f hq ⟨v8, br_f (by rw [a3]; exact zw) (br_f (nI_ge (b := 12) (by omega) (by omega)) (br_t (nI_lt (b := 24) (by omega) (by omega)) ?_))⟩)⟩)), (pk_charN hn).1⟩
  · rw [ec, en]
    exact ⟨(pk_charN hn).1, K⟩
  · rw [ei, ec, ← e, en]
    exact ⟨vi, (pk_charN hn).1, K⟩
/-- outside the host -/
theorem ho_out {p q : Int32} {w0 h0 : Nat} (hw : f_hostWidth = nI w0) (hh : f_hostHeight = nI h0) (hw' : f_hostW = nI w0) (hh' : f_hostH = nI h0) (o : p < 0 ∨ nI h0 ≤ p ∨ q < 0 ∨ ¬ q < nI w0) :
    (∀ post : Int32 → Prop, post (-2) → wpX_hostOwner post (f_hostWidth, f_hostHeight, f_root, f_focusedPane, f_liveCount, a_parent, a_first, a_second, a_orientation, a_share, a_leastWidth, a_leastHeight, a_rectX, a_rectY, a_rectW, a_rectH, a_order, a_live, a_screenWidth, a_screenHeight, a_cursorRow, a_cursorCol, a_regionTop, a_regionBottom, a_parserMode, a_paramOne, a_paramTwo, a_paramIndex, a_cells) p q) ∧ (∀ post : Int32 → Prop, post (-2) → wpY_hostOwner post (f_count, f_hostW, f_hostH, f_focus, f_resW, f_resH, a_kind, a_val, a_tk, a_tv, b_live, a_wasLive, a_rx, a_ry, a_rw, a_rh, a_oldW, a_oldH, a_row, a_col, a_top, a_bot, a_mode, a_p1, a_p2, a_k, b_cells, a_sx, a_sy, a_sw, a_sh, a_mw, a_mh) p q) ∧ (∀ post : Int32 → SY → Prop, post 0 (f_count, f_hostW, f_hostH, f_focus, f_resW, f_resH, a_kind, a_val, a_tk, a_tv, b_live, a_wasLive, a_rx, a_ry, a_rw, a_rh, a_oldW, a_oldH, a_row, a_col, a_top, a_bot, a_mode, a_p1, a_p2, a_k, b_cells, a_sx, a_sy, a_sw, a_sh, a_mw, a_mh) → wpY_hostChar post (f_count, f_hostW, f_hostH, f_focus, f_resW, f_resH, a_kind, a_val, a_tk, a_tv, b_live, a_wasLive, a_rx, a_ry, a_rw, a_rh, a_oldW, a_oldH, a_row, a_col, a_top, a_bot, a_mode, a_p1, a_p2, a_k, b_cells, a_sx, a_sy, a_sw, a_sh, a_mw, a_mh) p q) := by
  subst hw hh hw' hh'
  by_cases h1 : p < 0
  · exact ⟨fun _ K => br_t h1 K, fun _ K => br_t h1 K, fun _ K => br_t h1 K⟩
  by_cases h2 : nI h0 ≤ p
  · exact ⟨fun _ K => br_f h1 (br_t h2 K), fun _ K => br_f h1 (br_t h2 K), fun _ K => br_f h1 (br_t h2 K)⟩
  by_cases h3 : q < 0
  · exact ⟨fun _ K => br_f h1 (br_f h2 (br_t h3 K)), fun _ K => br_f h1 (br_f h2 (br_t h3 K)), fun _ K => br_f h1 (br_f h2 (br_t h3 K))⟩
  have h4 : ¬ q < nI w0 := by
    rcases o with o | o | o | o
    · exact absurd o h1
    · exact absurd o h2
    · exact absurd o h3
    · exact o
  exact ⟨fun _ K => br_f h1 (br_f h2 (br_f h3 (br_f h4 K))), fun _ K => br_f h1 (br_f h2 (br_f h3 (br_f h4 K))), fun _ K => br_f h1 (br_f h2 (br_f h3 (br_f h4 K)))⟩
theorem ho_scan {p q : Int32} (hlb : b_live = a_live) (Pn : ∀ g, g < 8 → rl_p a_live a_rectX a_rectY a_rectW a_rectH a_screenWidth a_screenHeight a_rx a_ry a_rw a_rh a_cursorRow a_cursorCol a_regionTop a_regionBottom a_parserMode a_paramOne a_paramTwo a_paramIndex a_cells b_cells g) : ∀ d i : Nat, i + d = 8 →
    ∃ r : Int32, (∀ post : Int32 → Prop, post r → wX_hostOwner_29 post p q f_hostWidth f_hostHeight f_root f_focusedPane f_liveCount a_parent a_first a_second a_orientation a_share a_leastWidth a_leastHeight a_rectX a_rectY a_rectW a_rectH a_order a_live a_screenWidth a_screenHeight a_cursorRow a_cursorCol a_regionTop a_regionBottom a_parserMode a_paramOne a_paramTwo a_paramIndex a_cells (d + 1) (nI i)) ∧ (∀ post : Int32 → Prop, post r → wY_hostOwner_29 post p q f_count f_hostW f_hostH f_focus f_resW f_resH a_kind a_val a_tk a_tv b_live a_wasLive a_rx a_ry a_rw a_rh a_oldW a_oldH a_row a_col a_top a_bot a_mode a_p1 a_p2 a_k b_cells a_sx a_sy a_sw a_sh a_mw a_mh (d + 1) (nI i)) ∧
      ((r = -1 ∧ ∀ g, i ≤ g → g < 8 → a_live g ≠ 0 → (p < a_rectY g ∨ a_rectY g + a_rectH g ≤ p ∨ q < a_rectX g ∨ a_rectX g + a_rectW g ≤ q)) ∨ ∃ g, g < 8 ∧ a_live g ≠ 0 ∧ r = nI g) := by
  subst hlb
  intro d
  induction d with
  | zero =>
    intro i hi
    have h : (8 : Int32) ≤ nI i := nI_le (a := 8) (by omega) (by omega)
    exact ⟨-1, fun _ K => br_t h K, fun _ K => br_t h K, Or.inl ⟨rfl, fun g h1 h2 => by omega⟩⟩
  | succ d ih =>
    intro i hi
    have h8 : i < 8 := by omega
    have h : ¬ (8 : Int32) ≤ nI i := nI_ge (b := 8) h8 (by omega)
    have v8 := vi_8 h8
    have v15 : vp_in (nI i) 15 := vi_15 (by omega)
    have cg := cg_8 h8
    obtain ⟨r, hX, hY, hr⟩ := ih (i + 1) (by omega)
    have e1 := nI_1 i
    have nx : ∀ post : Int32 → Prop, post r → ∀ x, x = nI i + 1 → wX_hostOwner_29 post p q f_hostWidth f_hostHeight f_root f_focusedPane f_liveCount a_parent a_first a_second a_orientation a_share a_leastWidth a_leastHeight a_rectX a_rectY a_rectW a_rectH a_order b_live a_screenWidth a_screenHeight a_cursorRow a_cursorCol a_regionTop a_regionBottom a_parserMode a_paramOne a_paramTwo a_paramIndex a_cells (d + 1) x := fun post K => nm_r e1 (hX post K)
    have ny : ∀ post : Int32 → Prop, post r → ∀ x, x = nI i + 1 → wY_hostOwner_29 post p q f_count f_hostW f_hostH f_focus f_resW f_resH a_kind a_val a_tk a_tv b_live a_wasLive a_rx a_ry a_rw a_rh a_oldW a_oldH a_row a_col a_top a_bot a_mode a_p1 a_p2 a_k b_cells a_sx a_sy a_sw a_sh a_mw a_mh (d + 1) x := fun post K => nm_r e1 (hY post K)
    by_cases z : b_live i = 0
    · refine ⟨r, fun post K => br_f h ⟨v8, br_t (by rw [cg]; exact z) (nx post K)⟩, fun post K => br_f h ⟨v8, br_t (by rw [cg]; exact z) (ny post K)⟩, ?_⟩
      rcases hr with ⟨r1, r2⟩ | r1
      · refine Or.inl ⟨r1, fun g g1 g2 g3 => r2 g ?_ g2 g3⟩
        have : g ≠ i := fun e => g3 (by rw [e]; exact z)
        omega
      · exact Or.inr r1
    · obtain ⟨a1, a2, a3, a4, _⟩ := Pn i h8 z
      have skip : (p < a_rectY (nI i).toNatClampNeg ∨ a_rectY (nI i).toNatClampNeg + a_rectH (nI i).toNatClampNeg ≤ p ∨ q < a_rectX (nI i).toNatClampNeg ∨ a_rectX (nI i).toNatClampNeg + a_rectW (nI i).toNatClampNeg ≤ q) → ((r = -1 ∧ ∀ g, i ≤ g → g < 8 → b_live g ≠ 0 → (p < a_rectY g ∨ a_rectY g + a_rectH g ≤ p ∨ q < a_rectX g ∨ a_rectX g + a_rectW g ≤ q)) ∨ ∃ g, g < 8 ∧ b_live g ≠ 0 ∧ r = nI g) := by
        intro o
        rw [cg] at o
        rcases hr with ⟨r1, r2⟩ | r1
        · refine Or.inl ⟨r1, fun g g1 g2 g3 => ?_⟩
          by_cases e : g = i
          · rw [e]; exact o
          · exact r2 g (by omega) g2 g3
        · exact Or.inr r1
      rw [← cg] at a1 a2 a3 a4
      have z' : ¬ b_live (nI i).toNatClampNeg = 0 := by rw [cg]; exact z
      by_cases c1 : p < a_rectY (nI i).toNatClampNeg
      · exact ⟨r, fun post K => br_f h ⟨v8, br_f z' ⟨v15, nm_e ⟨v15, nm_e (br_t c1 (br_t rfl (nx post K)))⟩⟩⟩, fun post K => br_f h ⟨v8, br_f z' ⟨v8, br_t (by rw [a2]; exact c1) (ny post K)⟩⟩, skip (Or.inl c1)⟩
      by_cases c2 : a_rectY (nI i).toNatClampNeg + a_rectH (nI i).toNatClampNeg ≤ p
      · exact ⟨r, fun post K => br_f h ⟨v8, br_f z' ⟨v15, nm_e ⟨v15, nm_e (br_f c1 ⟨v15, br_t c2 (br_t rfl (nx post K))⟩)⟩⟩⟩, fun post K => br_f h ⟨v8, br_f z' ⟨v8, br_f (by rw [a2]; exact c1) ⟨v8, v8, br_t (by rw [a2, a4]; exact c2) (ny post K)⟩⟩⟩, skip (Or.inr (Or.inl c2))⟩
      by_cases c3 : q < a_rectX (nI i).toNatClampNeg
      · exact ⟨r, fun post K => br_f h ⟨v8, br_f z' ⟨v15, nm_e ⟨v15, nm_e (br_f c1 ⟨v15, br_f c2 (br_t c3 (br_t rfl (nx post K)))⟩)⟩⟩⟩, fun post K => br_f h ⟨v8, br_f z' ⟨v8, br_f (by rw [a2]; exact c1) ⟨v8, v8, br_f (by rw [a2, a4]; exact c2) ⟨v8, br_t (by rw [a1]; exact c3) (ny post K)⟩⟩⟩⟩, skip (Or.inr (Or.inr (Or.inl c3)))⟩
      by_cases c4 : a_rectX (nI i).toNatClampNeg + a_rectW (nI i).toNatClampNeg ≤ q
      · exact ⟨r, fun post K => br_f h ⟨v8, br_f z' ⟨v15, nm_e ⟨v15, nm_e (br_f c1 ⟨v15, br_f c2 (br_f c3 ⟨v15, br_t c4 (br_t rfl (nx post K))⟩)⟩)⟩⟩⟩, fun post K => br_f h ⟨v8, br_f z' ⟨v8, br_f (by rw [a2]; exact c1) ⟨v8, v8, br_f (by rw [a2, a4]; exact c2) ⟨v8, br_f (by rw [a1]; exact c3) ⟨v8, v8, br_t (by rw [a1, a3]; exact c4) (ny post K)⟩⟩⟩⟩⟩, skip (Or.inr (Or.inr (Or.inr c4)))⟩
      exact ⟨nI i, fun post K => br_f h ⟨v8, br_f z' ⟨v15, nm_e ⟨v15, nm_e (br_f c1 ⟨v15, br_f c2 (br_f c3 ⟨v15, br_f c4 (br_f (by decide) K)⟩)⟩)⟩⟩⟩, fun post K => br_f h ⟨v8, br_f z' ⟨v8, br_f (by rw [a2]; exact c1) ⟨v8, v8, br_f (by rw [a2, a4]; exact c2) ⟨v8, br_f (by rw [a1]; exact c3) ⟨v8, v8, br_f (by rw [a1, a3]; exact c4) K⟩⟩⟩⟩⟩, Or.inr ⟨i, h8, z, rfl⟩⟩
end PC
