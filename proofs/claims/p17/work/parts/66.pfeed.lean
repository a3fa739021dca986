/-- the law's look at both, while the first has been fed -/
def pf_S (u v : St2) (p : Int32) : Prop := match u, v with
  | (f_hostWidth, f_hostHeight, f_root, f_focusedPane, f_liveCount, a_parent, a_first, a_second, a_orientation, a_share, a_leastWidth, a_leastHeight, a_rectX, a_rectY, a_rectW, a_rectH, a_order, a_live, a_screenWidth, a_screenHeight, a_cursorRow, a_cursorCol, a_regionTop, a_regionBottom, a_parserMode, a_paramOne, a_paramTwo, a_paramIndex, a_cells), (f_bhostWidth, f_bhostHeight, f_broot, f_bfocusedPane, f_bliveCount, a_bparent, a_bfirst, a_bsecond, a_borientation, a_bshare, a_bleastWidth, a_bleastHeight, a_brectX, a_brectY, a_brectW, a_brectH, a_border, a_blive, a_bscreenWidth, a_bscreenHeight, a_bcursorRow, a_bcursorCol, a_bregionTop, a_bregionBottom, a_bparserMode, a_bparamOne, a_bparamTwo, a_bparamIndex, a_bcells) => ∀ post : Int32 → Prop, post 1 → wpL_sameOutside post (f_hostWidth, f_hostHeight, f_root, f_focusedPane, f_liveCount, a_parent, a_first, a_second, a_orientation, a_share, a_leastWidth, a_leastHeight, a_rectX, a_rectY, a_rectW, a_rectH, a_order, a_live, a_screenWidth, a_screenHeight, a_cursorRow, a_cursorCol, a_regionTop, a_regionBottom, a_parserMode, a_paramOne, a_paramTwo, a_paramIndex, a_cells, f_bhostWidth, f_bhostHeight, f_broot, f_bfocusedPane, f_bliveCount, a_bparent, a_bfirst, a_bsecond, a_borientation, a_bshare, a_bleastWidth, a_bleastHeight, a_brectX, a_brectY, a_brectW, a_brectH, a_border, a_blive, a_bscreenWidth, a_bscreenHeight, a_bcursorRow, a_bcursorCol, a_bregionTop, a_bregionBottom, a_bparserMode, a_bparamOne, a_bparamTwo, a_bparamIndex, a_bcells) p
section PF
variable {f_hostWidth f_hostHeight f_root f_focusedPane f_liveCount : Int32} {a_parent a_first a_second a_orientation a_share a_leastWidth a_leastHeight a_rectX a_rectY a_rectW a_rectH a_order a_live a_screenWidth a_screenHeight a_cursorRow a_cursorCol a_regionTop a_regionBottom a_parserMode a_paramOne a_paramTwo a_paramIndex a_cells : Nat → Int32} {f_bhostWidth f_bhostHeight f_broot f_bfocusedPane f_bliveCount : Int32} {a_bparent a_bfirst a_bsecond a_borientation a_bshare a_bleastWidth a_bleastHeight a_brectX a_brectY a_brectW a_brectH a_border a_blive a_bscreenWidth a_bscreenHeight a_bcursorRow a_bcursorCol a_bregionTop a_bregionBottom a_bparserMode a_bparamOne a_bparamTwo a_bparamIndex a_bcells : Nat → Int32}
variable {c : Nat} {kd vl : Nat → Int32} {nd nb en po pb : Nat → Nat} {w0 h0 f : Nat}
theorem pf_V (J : pr_J f_hostWidth f_hostHeight f_root f_focusedPane f_liveCount a_parent a_first a_second a_orientation a_share a_leastWidth a_leastHeight a_rectX a_rectY a_rectW a_rectH a_order a_live a_screenWidth a_screenHeight a_cursorRow a_cursorCol a_regionTop a_regionBottom a_parserMode a_paramOne a_paramTwo a_paramIndex a_cells f_bhostWidth f_bhostHeight f_broot f_bfocusedPane f_bliveCount a_bparent a_bfirst a_bsecond a_borientation a_bshare a_bleastWidth a_bleastHeight a_brectX a_brectY a_brectW a_brectH a_border a_blive a_bscreenWidth a_bscreenHeight a_bcursorRow a_bcursorCol a_bregionTop a_bregionBottom a_bparserMode a_bparamOne a_bparamTwo a_bparamIndex a_bcells c kd vl nd nb en po pb w0 h0 f) : ov_V f_hostWidth f_hostHeight f_root f_focusedPane f_liveCount a_parent a_first a_second a_orientation a_share a_leastWidth a_leastHeight a_rectX a_rectY a_rectW a_rectH a_order a_live a_screenWidth a_screenHeight a_cursorRow a_cursorCol a_regionTop a_regionBottom a_parserMode a_paramOne a_paramTwo a_paramIndex a_cells c kd vl nd en po w0 h0 ∧ ov_V f_bhostWidth f_bhostHeight f_broot f_bfocusedPane f_bliveCount a_bparent a_bfirst a_bsecond a_borientation a_bshare a_bleastWidth a_bleastHeight a_brectX a_brectY a_brectW a_brectH a_border a_blive a_bscreenWidth a_bscreenHeight a_bcursorRow a_bcursorCol a_bregionTop a_bregionBottom a_bparserMode a_bparamOne a_bparamTwo a_bparamIndex a_bcells c kd vl nb en pb w0 h0 := by
  obtain ⟨rfl, rfl, rfl, rfl, j5, rfl, rfl, j8, j9, rfl, rfl, rfl, rfl, rfl, rfl, rfl, rfl, rfl, rfl, Ga, Gb, Pn, Sb⟩ := J
  refine ⟨⟨rfl, rfl, j9, Ga, fun g hg hl => ?_⟩, ⟨rfl, rfl, j9, Gb, fun g hg hl => ?_⟩⟩
  · obtain ⟨a1, a2, a3, a4, a5, a6, w, h, b1, b2, b3, b4, b5, b6, q, cr⟩ := Pn g hg hl
    exact ⟨a5, a6, ce_Hx cr⟩
  · obtain ⟨a1, a2, a3, a4, a5, a6, w, h, b1, b2, b3, b4, b5, b6, q, cr⟩ := Pn g hg hl
    obtain ⟨s1, s2⟩ := Sb g hg hl
    exact ⟨s1.trans (a5.trans a3.symm), s2.trans (a6.trans a4.symm), ce_Hy cr⟩
end PF
theorem pf_inv {u v : St2} {post : Int32 → Prop} (R : pr_R u v) (K : post 1) : wpL_invariants post u := by
  obtain ⟨f_hostWidth, f_hostHeight, f_root, f_focusedPane, f_liveCount, a_parent, a_first, a_second, a_orientation, a_share, a_leastWidth, a_leastHeight, a_rectX, a_rectY, a_rectW, a_rectH, a_order, a_live, a_screenWidth, a_screenHeight, a_cursorRow, a_cursorCol, a_regionTop, a_regionBottom, a_parserMode, a_paramOne, a_paramTwo, a_paramIndex, a_cells⟩ := u
  obtain ⟨f_bhostWidth, f_bhostHeight, f_broot, f_bfocusedPane, f_bliveCount, a_bparent, a_bfirst, a_bsecond, a_borientation, a_bshare, a_bleastWidth, a_bleastHeight, a_brectX, a_brectY, a_brectW, a_brectH, a_border, a_blive, a_bscreenWidth, a_bscreenHeight, a_bcursorRow, a_bcursorCol, a_bregionTop, a_bregionBottom, a_bparserMode, a_bparamOne, a_bparamTwo, a_bparamIndex, a_bcells⟩ := v
  obtain ⟨c, kd, vl, nd, nb, en, po, pb, w0, h0, f, J⟩ := R
  exact iv_all (pf_V J).1 K
theorem pf_all {u v : St2} (R : pr_R u v) (p v2 : Int32) : ∃ ra u' v', pr_R u' v' ∧ (∀ post : Int32 → St2 → Prop, post ra u' → wpX_feed post u p v2) ∧ (∀ post : Int32 → St2 → Prop, post ra v' → wpX_feed post v p v2) ∧ pf_S u' v p := by
  obtain ⟨f_hostWidth, f_hostHeight, f_root, f_focusedPane, f_liveCount, a_parent, a_first, a_second, a_orientation, a_share, a_leastWidth, a_leastHeight, a_rectX, a_rectY, a_rectW, a_rectH, a_order, a_live, a_screenWidth, a_screenHeight, a_cursorRow, a_cursorCol, a_regionTop, a_regionBottom, a_parserMode, a_paramOne, a_paramTwo, a_paramIndex, a_cells⟩ := u
  obtain ⟨f_bhostWidth, f_bhostHeight, f_broot, f_bfocusedPane, f_bliveCount, a_bparent, a_bfirst, a_bsecond, a_borientation, a_bshare, a_bleastWidth, a_bleastHeight, a_brectX, a_brectY, a_brectW, a_brectH, a_border, a_blive, a_bscreenWidth, a_bscreenHeight, a_bcursorRow, a_bcursorCol, a_bregionTop, a_bregionBottom, a_bparserMode, a_bparamOne, a_bparamTwo, a_bparamIndex, a_bcells⟩ := v
  obtain ⟨c, kd, vl, nd, nb, en, po, pb, w0, h0, f, J⟩ := R
  have J0 := J
  obtain ⟨Va, Vb⟩ := pf_V J
  obtain ⟨rfl, rfl, rfl, rfl, j5, rfl, rfl, j8, j9, rfl, rfl, rfl, rfl, rfl, rfl, rfl, rfl, rfl, rfl, Ga, Gb, Pn, Sb⟩ := J
  rcases pd_or a_live p with D | ⟨g, hg, e, hl⟩
  · refine ⟨0, (nI w0, nI h0, f_root, nI f, f_liveCount, a_parent, a_first, a_second, a_orientation, a_share, a_leastWidth, a_leastHeight, a_rectX, a_rectY, a_rectW, a_rectH, a_order, a_live, a_screenWidth, a_screenHeight, a_cursorRow, a_cursorCol, a_regionTop, a_regionBottom, a_parserMode, a_paramOne, a_paramTwo, a_paramIndex, a_cells), (nI w0, nI h0, f_broot, nI f, f_liveCount, a_bparent, a_bfirst, a_bsecond, a_borientation, a_bshare, a_bleastWidth, a_bleastHeight, a_brectX, a_brectY, a_brectW, a_brectH, a_border, a_live, a_bscreenWidth, a_bscreenHeight, a_cursorRow, a_cursorCol, a_regionTop, a_regionBottom, a_parserMode, a_paramOne, a_paramTwo, a_paramIndex, a_bcells), ⟨c, kd, vl, nd, nb, en, po, pb, w0, h0, f, J0⟩, fun post K => ?_, fun post K => ?_, fun post K => so_all Va Vb (fun g hg hl _ j j1 j2 => ?_) K⟩
    · unfold wpX_feed
      exact xw_dead D (br_t rfl K)
    · unfold wpX_feed
      exact xw_dead D (br_t rfl K)
    · obtain ⟨a1, a2, a3, a4, a5, a6, w, h, b1, b2, b3, b4, b5, b6, q, cr⟩ := Pn g hg hl
      exact (cr j j1 j2).1.symm
  · subst e
    obtain ⟨a1, a2, a3, a4, a5, a6, w, h, b1, b2, b3, b4, b5, b6, q, cr⟩ := Pn g hg hl
    obtain ⟨s1, s2⟩ := Sb g hg hl
    obtain ⟨R', C', T', B', M', P1', P2', K', fx, oth, q', crx, cox, W⟩ := fo_all hg b4 b6 q v2
    have Pn' : ∀ x, x < 8 → rl_p a_live a_rectX a_rectY a_rectW a_rectH a_screenWidth a_screenHeight a_brectX a_brectY a_brectW a_brectH R' C' T' B' M' P1' P2' K' (fx a_cells) (fx a_bcells) x := by
      intro x hx
      by_cases z : x = g
      · subst z
        intro _
        exact ⟨a1, a2, a3, a4, a5, a6, w, h, b1, b2, b3, b4, b5, b6, q', crx _ _ cr⟩
      · obtain ⟨o1, o2, o3, o4, o5, o6, o7, o8⟩ := oth x z
        exact rl_cg (Pn x hx) id ⟨rfl, rfl⟩ ⟨o1, o2, o3, o4, o5, o6, o7, o8⟩ (fun w h cr => ce_Oo (cox a_cells) (cox a_bcells) (by omega) cr)
    have R2 : pr_R (nI w0, nI h0, f_root, nI f, f_liveCount, a_parent, a_first, a_second, a_orientation, a_share, a_leastWidth, a_leastHeight, a_rectX, a_rectY, a_rectW, a_rectH, a_order, a_live, a_screenWidth, a_screenHeight, R', C', T', B', M', P1', P2', K', fx a_cells) (nI w0, nI h0, f_broot, nI f, f_liveCount, a_bparent, a_bfirst, a_bsecond, a_borientation, a_bshare, a_bleastWidth, a_bleastHeight, a_brectX, a_brectY, a_brectW, a_brectH, a_border, a_live, a_bscreenWidth, a_bscreenHeight, R', C', T', B', M', P1', P2', K', fx a_bcells) :=
      ⟨c, kd, vl, nd, nb, en, po, pb, w0, h0, f, rfl, rfl, rfl, rfl, j5, rfl, rfl, j8, j9, rfl, rfl, rfl, rfl, rfl, rfl, rfl, rfl, rfl, rfl, Ga, Gb, Pn', Sb⟩
    have Va' : ov_V (nI w0) (nI h0) f_root (nI f) f_liveCount a_parent a_first a_second a_orientation a_share a_leastWidth a_leastHeight a_rectX a_rectY a_rectW a_rectH a_order a_live a_screenWidth a_screenHeight R' C' T' B' M' P1' P2' K' (fx a_cells) c kd vl nd en po w0 h0 := by
      refine ⟨rfl, rfl, j9, Ga, fun x hx hlx => ?_⟩
      obtain ⟨c1, c2, c3, c4, c5, c6, w', h', d1, d2, d3, d4, d5, d6, _, cr'⟩ := Pn' x hx hlx
      exact ⟨c5, c6, ce_Hx cr'⟩
    refine ⟨1, _, _, R2, fun post K => W (nI w0) (nI h0) f_root (nI f) f_liveCount a_parent a_first a_second a_orientation a_share a_leastWidth a_leastHeight a_rectX a_rectY a_rectW a_rectH a_order a_live a_screenWidth a_screenHeight a_cursorRow a_cursorCol a_regionTop a_regionBottom a_parserMode a_paramOne a_paramTwo a_paramIndex a_cells hl (a5.trans b1) (a6.trans b2) (ce_Hx cr) post K, fun post K => W (nI w0) (nI h0) f_broot (nI f) f_liveCount a_bparent a_bfirst a_bsecond a_borientation a_bshare a_bleastWidth a_bleastHeight a_brectX a_brectY a_brectW a_brectH a_border a_live a_bscreenWidth a_bscreenHeight a_cursorRow a_cursorCol a_regionTop a_regionBottom a_parserMode a_paramOne a_paramTwo a_paramIndex a_bcells hl (s1.trans (a5.trans b1)) (s2.trans (a6.trans b2)) (ce_Hy cr) post K, fun post K => so_all Va' Vb (fun x hx hlx hne j j1 j2 => ?_) K⟩
    have z : x ≠ g := fun e => hne (by rw [e])
    obtain ⟨c1, c2, c3, c4, c5, c6, w', h', d1, d2, d3, d4, d5, d6, _, cr'⟩ := Pn x hx hlx
    rw [cox a_cells j (by omega)]
    exact (cr' j j1 j2).1.symm
