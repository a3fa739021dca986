section SO
variable {f_hostWidth f_hostHeight f_root f_focusedPane f_liveCount : Int32} {a_parent a_first a_second a_orientation a_share a_leastWidth a_leastHeight a_rectX a_rectY a_rectW a_rectH a_order a_live a_screenWidth a_screenHeight a_cursorRow a_cursorCol a_regionTop a_regionBottom a_parserMode a_paramOne a_paramTwo a_paramIndex a_cells : Nat → Int32} {f_bhostWidth f_bhostHeight f_broot f_bfocusedPane f_bliveCount : Int32} {a_bparent a_bfirst a_bsecond a_borientation a_bshare a_bleastWidth a_bleastHeight a_brectX a_brectY a_brectW a_brectH a_border a_blive a_bscreenWidth a_bscreenHeight a_bcursorRow a_bcursorCol a_bregionTop a_bregionBottom a_bparserMode a_bparamOne a_bparamTwo a_bparamIndex a_bcells : Nat → Int32}
variable {c : Nat} {kd vl : Nat → Int32} {nd nb en po pb : Nat → Nat} {w0 h0 : Nat} {p : Int32}
/-- the second object's rectangles, in the first one's picture -/
theorem so_N {X Y W H mw mh : Nat → Nat} (Ga : rl_G c nd en po w0 h0 f_root a_parent a_first a_second a_orientation a_share a_leastWidth a_leastHeight a_rectX a_rectY a_rectW a_rectH kd vl a_live) (Gb : rl_G c nb en pb w0 h0 f_broot a_bparent a_bfirst a_bsecond a_borientation a_bshare a_bleastWidth a_bleastHeight a_brectX a_brectY a_brectW a_brectH kd vl a_blive) (N : la_N c nd a_leastWidth a_leastHeight a_rectX a_rectY a_rectW a_rectH w0 h0 X Y W H mw mh) : la_N c nb a_bleastWidth a_bleastHeight a_brectX a_brectY a_brectW a_brectH w0 h0 X Y W H mw mh := by
  intro i hi
  obtain ⟨u1, u2, u3, u4, u5, u6⟩ := (pr_un Ga Gb).1 i hi
  have n := N i hi
  rw [← u1, ← u2, ← u3, ← u4, ← u5, ← u6] at n
  exact n
theorem so_vw (RE : ∀ g, g < 8 → a_live g ≠ 0 → a_brectX g = a_rectX g ∧ a_brectY g = a_rectY g ∧ a_brectW g = a_rectW g ∧ a_brectH g = a_rectH g) {g : Nat} (hg : g < 8) (hl : a_live g ≠ 0) : vw_n a_brectX g = vw_n a_rectX g ∧ vw_n a_brectY g = vw_n a_rectY g ∧ vw_n a_brectW g = vw_n a_rectW g ∧ vw_n a_brectH g = vw_n a_rectH g := by
  obtain ⟨r1, r2, r3, r4⟩ := RE g hg hl
  unfold vw_n
  rw [r1, r2, r3, r4]
  exact ⟨rfl, rfl, rfl, rfl⟩
/-- what the host shows at a cell outside pane p's rectangle: the same in both -/
theorem so_hc {P : Int32 → Int32 → Prop} {r s : Nat} (Va : ov_V f_hostWidth f_hostHeight f_root f_focusedPane f_liveCount a_parent a_first a_second a_orientation a_share a_leastWidth a_leastHeight a_rectX a_rectY a_rectW a_rectH a_order a_live a_screenWidth a_screenHeight a_cursorRow a_cursorCol a_regionTop a_regionBottom a_parserMode a_paramOne a_paramTwo a_paramIndex a_cells c kd vl nd en po w0 h0) (Vb : ov_V f_bhostWidth f_bhostHeight f_broot f_bfocusedPane f_bliveCount a_bparent a_bfirst a_bsecond a_borientation a_bshare a_bleastWidth a_bleastHeight a_brectX a_brectY a_brectW a_brectH a_border a_live a_bscreenWidth a_bscreenHeight a_bcursorRow a_bcursorCol a_bregionTop a_bregionBottom a_bparserMode a_bparamOne a_bparamTwo a_bparamIndex a_bcells c kd vl nb en pb w0 h0) (CE : ∀ g, g < 8 → a_live g ≠ 0 → nI g ≠ p → ∀ j, g * 288 ≤ j → j < g * 288 + 288 → a_bcells j = a_cells j) (hr : r < 12) (hs : s < 24) (no : ∀ g, g < 8 → p = nI g → a_live g ≠ 0 → ¬ vw_in a_brectX a_brectY a_brectW a_brectH g r s) (K : ∀ x, P x x) : wpX_hostChar (fun x => wpX_hostChar (fun y => P x y) (f_bhostWidth, f_bhostHeight, f_broot, f_bfocusedPane, f_bliveCount, a_bparent, a_bfirst, a_bsecond, a_borientation, a_bshare, a_bleastWidth, a_bleastHeight, a_brectX, a_brectY, a_brectW, a_brectH, a_border, a_live, a_bscreenWidth, a_bscreenHeight, a_bcursorRow, a_bcursorCol, a_bregionTop, a_bregionBottom, a_bparserMode, a_bparamOne, a_bparamTwo, a_bparamIndex, a_bcells) (nI r) (nI s)) (f_hostWidth, f_hostHeight, f_root, f_focusedPane, f_liveCount, a_parent, a_first, a_second, a_orientation, a_share, a_leastWidth, a_leastHeight, a_rectX, a_rectY, a_rectW, a_rectH, a_order, a_live, a_screenWidth, a_screenHeight, a_cursorRow, a_cursorCol, a_regionTop, a_regionBottom, a_parserMode, a_paramOne, a_paramTwo, a_paramIndex, a_cells) (nI r) (nI s) := by
  have Ga := Va.2.2.2.1
  have Gb := Vb.2.2.2.1
  have RE := pr_live Ga Gb
  have b1 := Ga.2.2.2.2.1
  have b2 := Ga.2.2.2.2.2.2.1
  by_cases o : h0 ≤ r ∨ w0 ≤ s
  · exact xo_hcout Va (by omega) (by omega) o (xo_hcout Vb (by omega) (by omega) o (K 0))
  · by_cases ex : ∃ g, g < 8 ∧ a_live g ≠ 0 ∧ vw_in a_rectX a_rectY a_rectW a_rectH g r s
    · obtain ⟨g, hg, hl, hin⟩ := ex
      obtain ⟨q1, q2, q3, q4⟩ := so_vw RE hg hl
      have hin2 : vw_in a_brectX a_brectY a_brectW a_brectH g r s := by
        unfold vw_in at hin ⊢
        rw [q1, q2, q3, q4]
        exact hin
      have gp : nI g ≠ p := fun e => no g hg e.symm hl hin2
      obtain ⟨s1, s2, s3, s4, s5, s6, s7, s8, s9, s10⟩ := vw_sz Ga hg hl
      have hin3 := hin
      unfold vw_in at hin3
      refine xo_hcin Va hg hl hin (xo_hcin Vb hg hl hin2 ?_)
      rw [q1, q2, CE g hg hl gp _ (by omega) (by omega)]
      exact K _
    · have na : ∀ g, g < 8 → a_live g ≠ 0 → ¬ vw_in a_rectX a_rectY a_rectW a_rectH g r s := fun g hg hl hin => ex ⟨g, hg, hl, hin⟩
      have nb' : ∀ g, g < 8 → a_live g ≠ 0 → ¬ vw_in a_brectX a_brectY a_brectW a_brectH g r s := by
        intro g hg hl hin
        obtain ⟨q1, q2, q3, q4⟩ := so_vw RE hg hl
        refine na g hg hl ?_
        unfold vw_in at hin ⊢
        rw [q1, q2, q3, q4] at hin
        exact hin
      obtain ⟨X, Y, W, H, mw, mh, N, GG⟩ := rl_nat Ga
      obtain ⟨j, jc, bd⟩ := vw_bd Ga N GG (by omega) (by omega) na
      exact xo_hcbd Va N GG (by omega) (by omega) na jc bd (xo_hcbd Vb (so_N Ga Gb N) GG (by omega) (by omega) nb' jc bd (K _))
theorem so_174 {post : Int32 → Prop} {J165 : Int32 → Prop} {r : Nat} (Va : ov_V f_hostWidth f_hostHeight f_root f_focusedPane f_liveCount a_parent a_first a_second a_orientation a_share a_leastWidth a_leastHeight a_rectX a_rectY a_rectW a_rectH a_order a_live a_screenWidth a_screenHeight a_cursorRow a_cursorCol a_regionTop a_regionBottom a_parserMode a_paramOne a_paramTwo a_paramIndex a_cells c kd vl nd en po w0 h0) (Vb : ov_V f_bhostWidth f_bhostHeight f_broot f_bfocusedPane f_bliveCount a_bparent a_bfirst a_bsecond a_borientation a_bshare a_bleastWidth a_bleastHeight a_brectX a_brectY a_brectW a_brectH a_border a_live a_bscreenWidth a_bscreenHeight a_bcursorRow a_bcursorCol a_bregionTop a_bregionBottom a_bparserMode a_bparamOne a_bparamTwo a_bparamIndex a_bcells c kd vl nb en pb w0 h0) (CE : ∀ g, g < 8 → a_live g ≠ 0 → nI g ≠ p → ∀ j, g * 288 ≤ j → j < g * 288 + 288 → a_bcells j = a_cells j) (hr : r < 12) (K : J165 (nI (r + 1))) : ∃ n, wL_sameOutside_174 post J165 p (nI r) f_hostWidth f_hostHeight f_root f_focusedPane f_liveCount a_parent a_first a_second a_orientation a_share a_leastWidth a_leastHeight a_rectX a_rectY a_rectW a_rectH a_order a_live a_screenWidth a_screenHeight a_cursorRow a_cursorCol a_regionTop a_regionBottom a_parserMode a_paramOne a_paramTwo a_paramIndex a_cells f_bhostWidth f_bhostHeight f_broot f_bfocusedPane f_bliveCount a_bparent a_bfirst a_bsecond a_borientation a_bshare a_bleastWidth a_bleastHeight a_brectX a_brectY a_brectW a_brectH a_border a_live a_bscreenWidth a_bscreenHeight a_bcursorRow a_bcursorCol a_bregionTop a_bregionBottom a_bparserMode a_bparamOne a_bparamTwo a_bparamIndex a_bcells n 0 := by
  have main : ∀ dd s, s + dd = 24 → wL_sameOutside_174 post J165 p (nI r) f_hostWidth f_hostHeight f_root f_focusedPane f_liveCount a_parent a_first a_second a_orientation a_share a_leastWidth a_leastHeight a_rectX a_rectY a_rectW a_rectH a_order a_live a_screenWidth a_screenHeight a_cursorRow a_cursorCol a_regionTop a_regionBottom a_parserMode a_paramOne a_paramTwo a_paramIndex a_cells f_bhostWidth f_bhostHeight f_broot f_bfocusedPane f_bliveCount a_bparent a_bfirst a_bsecond a_borientation a_bshare a_bleastWidth a_bleastHeight a_brectX a_brectY a_brectW a_brectH a_border a_live a_bscreenWidth a_bscreenHeight a_bcursorRow a_bcursorCol a_bregionTop a_bregionBottom a_bparserMode a_bparamOne a_bparamTwo a_bparamIndex a_bcells (dd + 1) (nI s) := by
    intro dd
    induction dd with
    | zero =>
      intro s hs
      exact br_t (nI_le (a := 24) (by omega) (by omega)) (nm_r (nI_1 r) K)
    | succ dd ih =>
      intro s hs
      have IH := ih (s + 1) (by omega)
      refine br_f (nI_ge (b := 24) (by omega) (by omega)) (xo_rect Vb (by omega) (by omega) (fun _ _ _ _ _ => br_f (by decide) (nm_r (nI_1 s) IH)) (fun no => br_t rfl ?_))
      exact so_hc Va Vb CE hr (by omega) no (fun x => br_t rfl (nm_r (nI_1 s) IH))
  exact ⟨25, main 24 0 (by omega)⟩
theorem so_165 {post : Int32 → Prop} (Va : ov_V f_hostWidth f_hostHeight f_root f_focusedPane f_liveCount a_parent a_first a_second a_orientation a_share a_leastWidth a_leastHeight a_rectX a_rectY a_rectW a_rectH a_order a_live a_screenWidth a_screenHeight a_cursorRow a_cursorCol a_regionTop a_regionBottom a_parserMode a_paramOne a_paramTwo a_paramIndex a_cells c kd vl nd en po w0 h0) (Vb : ov_V f_bhostWidth f_bhostHeight f_broot f_bfocusedPane f_bliveCount a_bparent a_bfirst a_bsecond a_borientation a_bshare a_bleastWidth a_bleastHeight a_brectX a_brectY a_brectW a_brectH a_border a_live a_bscreenWidth a_bscreenHeight a_bcursorRow a_bcursorCol a_bregionTop a_bregionBottom a_bparserMode a_bparamOne a_bparamTwo a_bparamIndex a_bcells c kd vl nb en pb w0 h0) (CE : ∀ g, g < 8 → a_live g ≠ 0 → nI g ≠ p → ∀ j, g * 288 ≤ j → j < g * 288 + 288 → a_bcells j = a_cells j) (K : post 1) : ∃ n, wL_sameOutside_165 post p f_hostWidth f_hostHeight f_root f_focusedPane f_liveCount a_parent a_first a_second a_orientation a_share a_leastWidth a_leastHeight a_rectX a_rectY a_rectW a_rectH a_order a_live a_screenWidth a_screenHeight a_cursorRow a_cursorCol a_regionTop a_regionBottom a_parserMode a_paramOne a_paramTwo a_paramIndex a_cells f_bhostWidth f_bhostHeight f_broot f_bfocusedPane f_bliveCount a_bparent a_bfirst a_bsecond a_borientation a_bshare a_bleastWidth a_bleastHeight a_brectX a_brectY a_brectW a_brectH a_border a_live a_bscreenWidth a_bscreenHeight a_bcursorRow a_bcursorCol a_bregionTop a_bregionBottom a_bparserMode a_bparamOne a_bparamTwo a_bparamIndex a_bcells n 0 := by
  have main : ∀ dd r, r + dd = 12 → wL_sameOutside_165 post p f_hostWidth f_hostHeight f_root f_focusedPane f_liveCount a_parent a_first a_second a_orientation a_share a_leastWidth a_leastHeight a_rectX a_rectY a_rectW a_rectH a_order a_live a_screenWidth a_screenHeight a_cursorRow a_cursorCol a_regionTop a_regionBottom a_parserMode a_paramOne a_paramTwo a_paramIndex a_cells f_bhostWidth f_bhostHeight f_broot f_bfocusedPane f_bliveCount a_bparent a_bfirst a_bsecond a_borientation a_bshare a_bleastWidth a_bleastHeight a_brectX a_brectY a_brectW a_brectH a_border a_live a_bscreenWidth a_bscreenHeight a_bcursorRow a_bcursorCol a_bregionTop a_bregionBottom a_bparserMode a_bparamOne a_bparamTwo a_bparamIndex a_bcells (dd + 1) (nI r) := by
    intro dd
    induction dd with
    | zero =>
      intro r hr
      exact br_t (nI_le (a := 12) (by omega) (by omega)) K
    | succ dd ih =>
      intro r hr
      exact br_f (nI_ge (b := 12) (by omega) (by omega)) (so_174 Va Vb CE (by omega) (ih (r + 1) (by omega)))
  exact ⟨13, main 12 0 (by omega)⟩
theorem so_108 {post : Int32 → Prop} {J50 J91 : Int32 → Prop} {x5 : Int32} {g w h r : Nat} (hg : g < 8) (hl : a_live g ≠ 0) (w4 : w ≤ 24) (h4 : h ≤ 12) (sw : a_screenWidth g = nI w) (sh : a_screenHeight g = nI h) (bw : a_bscreenWidth g = nI w) (bh : a_bscreenHeight g = nI h) (Ha : ce_H (g * 288) a_cells) (Hb : ce_H (g * 288) a_bcells) (CE : ∀ j, g * 288 ≤ j → j < g * 288 + 288 → a_bcells j = a_cells j) (hr : r < h) (K : J91 (nI (r + 1))) : ∃ n, wL_sameOutside_108 post J50 J91 p (nI g) (nI w) x5 (nI r) f_hostWidth f_hostHeight f_root f_focusedPane f_liveCount a_parent a_first a_second a_orientation a_share a_leastWidth a_leastHeight a_rectX a_rectY a_rectW a_rectH a_order a_live a_screenWidth a_screenHeight a_cursorRow a_cursorCol a_regionTop a_regionBottom a_parserMode a_paramOne a_paramTwo a_paramIndex a_cells f_bhostWidth f_bhostHeight f_broot f_bfocusedPane f_bliveCount a_bparent a_bfirst a_bsecond a_borientation a_bshare a_bleastWidth a_bleastHeight a_brectX a_brectY a_brectW a_brectH a_border a_live a_bscreenWidth a_bscreenHeight a_bcursorRow a_bcursorCol a_bregionTop a_bregionBottom a_bparserMode a_bparamOne a_bparamTwo a_bparamIndex a_bcells n 0 := by
  have main : ∀ dd s, s + dd = w → wL_sameOutside_108 post J50 J91 p (nI g) (nI w) x5 (nI r) f_hostWidth f_hostHeight f_root f_focusedPane f_liveCount a_parent a_first a_second a_orientation a_share a_leastWidth a_leastHeight a_rectX a_rectY a_rectW a_rectH a_order a_live a_screenWidth a_screenHeight a_cursorRow a_cursorCol a_regionTop a_regionBottom a_parserMode a_paramOne a_paramTwo a_paramIndex a_cells f_bhostWidth f_bhostHeight f_broot f_bfocusedPane f_bliveCount a_bparent a_bfirst a_bsecond a_borientation a_bshare a_bleastWidth a_bleastHeight a_brectX a_brectY a_brectW a_brectH a_border a_live a_bscreenWidth a_bscreenHeight a_bcursorRow a_bcursorCol a_bregionTop a_bregionBottom a_bparserMode a_bparamOne a_bparamTwo a_bparamIndex a_bcells (dd + 1) (nI s) := by
    intro dd
    induction dd with
    | zero =>
      intro s hs
      exact br_t (nI_le (by omega) (by omega)) (nm_r (nI_1 r) K)
    | succ dd ih =>
      intro s hs
      have IH := ih (s + 1) (by omega)
      refine br_f (nI_ge (by omega) (by omega)) (br_f (nI_ge (b := 24) (by omega) (by omega)) (xo_pc hg hl sw sh w4 h4 Ha hr (by omega) (xo_pc hg hl bw bh w4 h4 Hb hr (by omega) ?_)))
      rw [CE _ (by omega) (by omega)]
      exact br_t rfl (nm_r (nI_1 s) IH)
  exact ⟨w + 1, main w 0 (by omega)⟩
theorem so_91 {post : Int32 → Prop} {J50 : Int32 → Prop} {g w h : Nat} (hg : g < 8) (hl : a_live g ≠ 0) (w4 : w ≤ 24) (h4 : h ≤ 12) (sw : a_screenWidth g = nI w) (sh : a_screenHeight g = nI h) (bw : a_bscreenWidth g = nI w) (bh : a_bscreenHeight g = nI h) (Ha : ce_H (g * 288) a_cells) (Hb : ce_H (g * 288) a_bcells) (CE : ∀ j, g * 288 ≤ j → j < g * 288 + 288 → a_bcells j = a_cells j) (K : J50 (nI (g + 1))) : ∃ n, wL_sameOutside_91 post J50 p (nI g) (nI w) (nI h) f_hostWidth f_hostHeight f_root f_focusedPane f_liveCount a_parent a_first a_second a_orientation a_share a_leastWidth a_leastHeight a_rectX a_rectY a_rectW a_rectH a_order a_live a_screenWidth a_screenHeight a_cursorRow a_cursorCol a_regionTop a_regionBottom a_parserMode a_paramOne a_paramTwo a_paramIndex a_cells f_bhostWidth f_bhostHeight f_broot f_bfocusedPane f_bliveCount a_bparent a_bfirst a_bsecond a_borientation a_bshare a_bleastWidth a_bleastHeight a_brectX a_brectY a_brectW a_brectH a_border a_live a_bscreenWidth a_bscreenHeight a_bcursorRow a_bcursorCol a_bregionTop a_bregionBottom a_bparserMode a_bparamOne a_bparamTwo a_bparamIndex a_bcells n 0 := by
  have main : ∀ dd r, r + dd = h → wL_sameOutside_91 post J50 p (nI g) (nI w) (nI h) f_hostWidth f_hostHeight f_root f_focusedPane f_liveCount a_parent a_first a_second a_orientation a_share a_leastWidth a_leastHeight a_rectX a_rectY a_rectW a_rectH a_order a_live a_screenWidth a_screenHeight a_cursorRow a_cursorCol a_regionTop a_regionBottom a_parserMode a_paramOne a_paramTwo a_paramIndex a_cells f_bhostWidth f_bhostHeight f_broot f_bfocusedPane f_bliveCount a_bparent a_bfirst a_bsecond a_borientation a_bshare a_bleastWidth a_bleastHeight a_brectX a_brectY a_brectW a_brectH a_border a_live a_bscreenWidth a_bscreenHeight a_bcursorRow a_bcursorCol a_bregionTop a_bregionBottom a_bparserMode a_bparamOne a_bparamTwo a_bparamIndex a_bcells (dd + 1) (nI r) := by
    intro dd
    induction dd with
    | zero =>
      intro r hr
      exact br_t (nI_le (by omega) (by omega)) (nm_r (nI_1 g) K)
    | succ dd ih =>
      intro r hr
      exact br_f (nI_ge (by omega) (by omega)) (br_f (nI_ge (b := 12) (by omega) (by omega)) (so_108 hg hl w4 h4 sw sh bw bh Ha Hb CE (by omega) (ih (r + 1) (by omega))))
  exact ⟨h + 1, main h 0 (by omega)⟩
theorem so_50 {post : Int32 → Prop} (Va : ov_V f_hostWidth f_hostHeight f_root f_focusedPane f_liveCount a_parent a_first a_second a_orientation a_share a_leastWidth a_leastHeight a_rectX a_rectY a_rectW a_rectH a_order a_live a_screenWidth a_screenHeight a_cursorRow a_cursorCol a_regionTop a_regionBottom a_parserMode a_paramOne a_paramTwo a_paramIndex a_cells c kd vl nd en po w0 h0) (Vb : ov_V f_bhostWidth f_bhostHeight f_broot f_bfocusedPane f_bliveCount a_bparent a_bfirst a_bsecond a_borientation a_bshare a_bleastWidth a_bleastHeight a_brectX a_brectY a_brectW a_brectH a_border a_live a_bscreenWidth a_bscreenHeight a_bcursorRow a_bcursorCol a_bregionTop a_bregionBottom a_bparserMode a_bparamOne a_bparamTwo a_bparamIndex a_bcells c kd vl nb en pb w0 h0) (CE : ∀ g, g < 8 → a_live g ≠ 0 → nI g ≠ p → ∀ j, g * 288 ≤ j → j < g * 288 + 288 → a_bcells j = a_cells j) (K : post 1) : ∃ n, wL_sameOutside_50 post p f_hostWidth f_hostHeight f_root f_focusedPane f_liveCount a_parent a_first a_second a_orientation a_share a_leastWidth a_leastHeight a_rectX a_rectY a_rectW a_rectH a_order a_live a_screenWidth a_screenHeight a_cursorRow a_cursorCol a_regionTop a_regionBottom a_parserMode a_paramOne a_paramTwo a_paramIndex a_cells f_bhostWidth f_bhostHeight f_broot f_bfocusedPane f_bliveCount a_bparent a_bfirst a_bsecond a_borientation a_bshare a_bleastWidth a_bleastHeight a_brectX a_brectY a_brectW a_brectH a_border a_live a_bscreenWidth a_bscreenHeight a_bcursorRow a_bcursorCol a_bregionTop a_bregionBottom a_bparserMode a_bparamOne a_bparamTwo a_bparamIndex a_bcells n 0 := by
  have Ga := Va.2.2.2.1
  have Gb := Vb.2.2.2.1
  have RE := pr_live Ga Gb
  have main : ∀ dd g, g + dd = 8 → wL_sameOutside_50 post p f_hostWidth f_hostHeight f_root f_focusedPane f_liveCount a_parent a_first a_second a_orientation a_share a_leastWidth a_leastHeight a_rectX a_rectY a_rectW a_rectH a_order a_live a_screenWidth a_screenHeight a_cursorRow a_cursorCol a_regionTop a_regionBottom a_parserMode a_paramOne a_paramTwo a_paramIndex a_cells f_bhostWidth f_bhostHeight f_broot f_bfocusedPane f_bliveCount a_bparent a_bfirst a_bsecond a_borientation a_bshare a_bleastWidth a_bleastHeight a_brectX a_brectY a_brectW a_brectH a_border a_live a_bscreenWidth a_bscreenHeight a_bcursorRow a_bcursorCol a_bregionTop a_bregionBottom a_bparserMode a_bparamOne a_bparamTwo a_bparamIndex a_bcells (dd + 1) (nI g) := by
    intro dd
    induction dd with
    | zero =>
      intro g hg
      exact br_t (nI_le (a := 8) (by omega) (by omega)) (so_165 Va Vb CE K)
    | succ dd ih =>
      intro g hg
      have g8 : g < 8 := by omega
      have IH := ih (g + 1) (by omega)
      refine br_f (nI_ge (b := 8) (by omega) (by omega)) ?_
      by_cases gp : nI g = p
      · exact br_t gp (nm_r (nI_1 g) IH)
      · refine br_f gp ?_
        by_cases z : a_live g = 0
        · exact xr_dead (iv_dead g8 z) (xr_dead (iv_dead g8 z) (br_f (by decide) (nm_r (nI_1 g) IH)))
        · obtain ⟨t1, t2, t3, t4, t5, t6, t7, t8, t9, t10⟩ := vw_sz Ga g8 z
          obtain ⟨r1, r2, r3, r4⟩ := RE g g8 z
          obtain ⟨c1, c2, c3⟩ := Va.2.2.2.2 g g8 z
          obtain ⟨d1, d2, d3⟩ := Vb.2.2.2.2 g g8 z
          refine xr_2 g8 z (xr_3 g8 z ?_)
          rw [r3, r4, t3, t4]
          exact br_t (nI_pos' (by omega)) (so_91 g8 z (by omega) (by omega) (c1.trans t3) (c2.trans t4) (d1.trans (r3.trans t3)) (d2.trans (r4.trans t4)) c3 d3 (CE g g8 z gp) IH)
  exact ⟨9, main 8 0 (by omega)⟩
theorem so_11 {post : Int32 → Prop} {J2 : Int32 → Prop} {g : Nat} (hg : g < 8) (RE : a_live g ≠ 0 → a_brectX g = a_rectX g ∧ a_brectY g = a_rectY g ∧ a_brectW g = a_rectW g ∧ a_brectH g = a_rectH g) (K : J2 (nI (g + 1))) : ∃ n, wL_sameOutside_11 post J2 p (nI g) f_hostWidth f_hostHeight f_root f_focusedPane f_liveCount a_parent a_first a_second a_orientation a_share a_leastWidth a_leastHeight a_rectX a_rectY a_rectW a_rectH a_order a_live a_screenWidth a_screenHeight a_cursorRow a_cursorCol a_regionTop a_regionBottom a_parserMode a_paramOne a_paramTwo a_paramIndex a_cells f_bhostWidth f_bhostHeight f_broot f_bfocusedPane f_bliveCount a_bparent a_bfirst a_bsecond a_borientation a_bshare a_bleastWidth a_bleastHeight a_brectX a_brectY a_brectW a_brectH a_border a_live a_bscreenWidth a_bscreenHeight a_bcursorRow a_bcursorCol a_bregionTop a_bregionBottom a_bparserMode a_bparamOne a_bparamTwo a_bparamIndex a_bcells n 0 := by
  have e4 : (4 : Int32) ≤ 4 := by decide
  by_cases z : a_live g = 0
  · have D := iv_dead hg z
    exact ⟨5, br_f (by decide) (xr_dead D (xr_dead D (br_t rfl (nm_r (e' := 1) (by decide) (br_f (by decide) (xr_dead D (xr_dead D (br_t rfl (nm_r (e' := 2) (by decide) (br_f (by decide) (xr_dead D (xr_dead D (br_t rfl (nm_r (e' := 3) (by decide) (br_f (by decide) (xr_dead D (xr_dead D (br_t rfl (nm_r (e' := 4) (by decide) (br_t e4 (nm_r (nI_1 g) K)))))))))))))))))))))⟩
  · obtain ⟨r1, r2, r3, r4⟩ := RE z
    exact ⟨5, br_f (by decide) (xr_0 hg z (xr_0 hg z (br_t r1.symm (nm_r (e' := 1) (by decide) (br_f (by decide) (xr_1 hg z (xr_1 hg z (br_t r2.symm (nm_r (e' := 2) (by decide) (br_f (by decide) (xr_2 hg z (xr_2 hg z (br_t r3.symm (nm_r (e' := 3) (by decide) (br_f (by decide) (xr_3 hg z (xr_3 hg z (br_t r4.symm (nm_r (e' := 4) (by decide) (br_t e4 (nm_r (nI_1 g) K)))))))))))))))))))))⟩
/-- the law's look beside the fed pane holds -/
theorem so_all {post : Int32 → Prop} (Va : ov_V f_hostWidth f_hostHeight f_root f_focusedPane f_liveCount a_parent a_first a_second a_orientation a_share a_leastWidth a_leastHeight a_rectX a_rectY a_rectW a_rectH a_order a_live a_screenWidth a_screenHeight a_cursorRow a_cursorCol a_regionTop a_regionBottom a_parserMode a_paramOne a_paramTwo a_paramIndex a_cells c kd vl nd en po w0 h0) (Vb : ov_V f_bhostWidth f_bhostHeight f_broot f_bfocusedPane f_bliveCount a_bparent a_bfirst a_bsecond a_borientation a_bshare a_bleastWidth a_bleastHeight a_brectX a_brectY a_brectW a_brectH a_border a_live a_bscreenWidth a_bscreenHeight a_bcursorRow a_bcursorCol a_bregionTop a_bregionBottom a_bparserMode a_bparamOne a_bparamTwo a_bparamIndex a_bcells c kd vl nb en pb w0 h0) (CE : ∀ g, g < 8 → a_live g ≠ 0 → nI g ≠ p → ∀ j, g * 288 ≤ j → j < g * 288 + 288 → a_bcells j = a_cells j) (K : post 1) : wpL_sameOutside post (f_hostWidth, f_hostHeight, f_root, f_focusedPane, f_liveCount, a_parent, a_first, a_second, a_orientation, a_share, a_leastWidth, a_leastHeight, a_rectX, a_rectY, a_rectW, a_rectH, a_order, a_live, a_screenWidth, a_screenHeight, a_cursorRow, a_cursorCol, a_regionTop, a_regionBottom, a_parserMode, a_paramOne, a_paramTwo, a_paramIndex, a_cells, f_bhostWidth, f_bhostHeight, f_broot, f_bfocusedPane, f_bliveCount, a_bparent, a_bfirst, a_bsecond, a_borientation, a_bshare, a_bleastWidth, a_bleastHeight, a_brectX, a_brectY, a_brectW, a_brectH, a_border, a_live, a_bscreenWidth, a_bscreenHeight, a_bcursorRow, a_bcursorCol, a_bregionTop, a_bregionBottom, a_bparserMode, a_bparamOne, a_bparamTwo, a_bparamIndex, a_bcells) p := by
  have RE := pr_live Va.2.2.2.1 Vb.2.2.2.1
  have main : ∀ dd g, g + dd = 8 → wL_sameOutside_2 post p f_hostWidth f_hostHeight f_root f_focusedPane f_liveCount a_parent a_first a_second a_orientation a_share a_leastWidth a_leastHeight a_rectX a_rectY a_rectW a_rectH a_order a_live a_screenWidth a_screenHeight a_cursorRow a_cursorCol a_regionTop a_regionBottom a_parserMode a_paramOne a_paramTwo a_paramIndex a_cells f_bhostWidth f_bhostHeight f_broot f_bfocusedPane f_bliveCount a_bparent a_bfirst a_bsecond a_borientation a_bshare a_bleastWidth a_bleastHeight a_brectX a_brectY a_brectW a_brectH a_border a_live a_bscreenWidth a_bscreenHeight a_bcursorRow a_bcursorCol a_bregionTop a_bregionBottom a_bparserMode a_bparamOne a_bparamTwo a_bparamIndex a_bcells (dd + 1) (nI g) := by
    intro dd
    induction dd with
    | zero =>
      intro g hg
      exact br_t (nI_le (a := 8) (by omega) (by omega)) (so_50 Va Vb CE K)
    | succ dd ih =>
      intro g hg
      exact br_f (nI_ge (b := 8) (by omega) (by omega)) (so_11 (by omega) (RE g (by omega)) (ih (g + 1) (by omega)))
  exact ⟨9, main 8 0 (by omega)⟩
end SO
