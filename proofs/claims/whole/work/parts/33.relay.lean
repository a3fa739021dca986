theorem rl_cg {lv xx xy xw xh sw sh yx yy yw yh R C T B M P1 P2 K xc yc lv' sw' sh' R' C' T' B' M' P1' P2' K' xc' yc' : Nat → Int32} {g : Nat} (h : rl_p lv xx xy xw xh sw sh yx yy yw yh R C T B M P1 P2 K xc yc g) (hl : lv' g ≠ 0 → lv g ≠ 0) (es : sw' g = sw g ∧ sh' g = sh g)
    (e : R' g = R g ∧ C' g = C g ∧ T' g = T g ∧ B' g = B g ∧ M' g = M g ∧ P1' g = P1 g ∧ P2' g = P2 g ∧ K' g = K g) (ce : ∀ w h, ce_R (g * 288) w h xc yc → ce_R (g * 288) w h xc' yc') : rl_p lv' xx xy xw xh sw' sh' yx yy yw yh R' C' T' B' M' P1' P2' K' xc' yc' g := by
  intro hl'
  obtain ⟨a1, a2, a3, a4, a5, a6, w, hh, b1, b2, b3, b4, b5, b6, q, cr⟩ := h (hl hl')
  obtain ⟨e1, e2, e3, e4, e5, e6, e7, e8⟩ := e
  refine ⟨a1, a2, a3, a4, es.1.trans a5, es.2.trans a6, w, hh, b1, b2, b3, b4, b5, b6, ?_, ce w hh cr⟩
  unfold rl_q at q ⊢
  rw [e1, e2, e3, e4, e5, e6, e7, e8]
  exact q
/-- the sizes before and after a layout, of the panes that stay -/
theorem rl_F {c : Nat} {nd en po : Nat → Nat} {w0 h0 : Nat} {root : Int32} {pa fi se ori sr lw lh rx ry rw rh kd vl dv lv xx xy xw xh sw sh yx yy yw yh R C T B M P1 P2 K xc yc lv' : Nat → Int32} (G : rl_G c nd en po w0 h0 root pa fi se ori sr lw lh rx ry rw rh kd vl lv')
    (hd : ∀ g, g < 8 → dv g ≠ 0 → lv g ≠ 0 ∧ lv' g ≠ 0) (Pn : ∀ g, g < 8 → rl_p lv xx xy xw xh sw sh yx yy yw yh R C T B M P1 P2 K xc yc g) : fi_F dv sw sh rw rh (fi_k sw rw) (fi_k sh rh) := by
  intro g hg hz
  obtain ⟨l1, l2⟩ := hd g hg hz
  obtain ⟨a1, a2, a3, a4, a5, a6, w, h, b1, b2, b3, b4, b5, b6, _⟩ := Pn g hg l1
  obtain ⟨x, y, nw, nh, c1, c2, c3, c4, c5, c6, c7, c8, _⟩ := rl_sz G hg l2
  have e1 := a5.trans b1
  have e2 := a6.trans b2
  exact ⟨w, h, nw, nh, e1, e2, c3, c4, c5, c6, c7, c8, b4, b6, fi_kk e1 c3 b4 c6, fi_kk e2 c4 (by omega) (by omega)⟩
/-- a live pane is a leaf of the tree -/
theorem rl_leaf {c : Nat} {nd en po : Nat → Nat} {w0 h0 : Nat} {root : Int32} {pa fi se ori sr lw lh rx ry rw rh kd vl lv : Nat → Int32} (G : rl_G c nd en po w0 h0 root pa fi se ori sr lw lh rx ry rw rh kd vl lv) {g : Nat} (hg : g < 8) (hl : lv g ≠ 0) : ∃ q, q < c ∧ kd q = 0 ∧ nd q = g := by
  obtain ⟨T, L, E, g1, g2, g3, g4, g5, g6, g7⟩ := G
  obtain ⟨i, hi, e⟩ := (g7 g hg).2.mp hl
  refine ⟨i, hi, ?_, e⟩
  by_cases z : kd i = 0
  · exact z
  · have := ((T.2.2.2.2.2.1 i hi).2.2.2.2 z).1
    omega
theorem rl_fin {c : Nat} {nd en po : Nat → Nat} {w0 h0 : Nat} {root : Int32} {pa fi se ori sr lw lh rx ry rw rh kd vl dv lv xx xy xw xh sw sh yx yy yw yh R C T B M P1 P2 K xc yc yrx yry yrw yrh : Nat → Int32} {kw kh : Nat → Nat} (G : rl_G c nd en po w0 h0 root pa fi se ori sr lw lh rx ry rw rh kd vl dv)
    (hd : ∀ g, g < 8 → dv g ≠ 0 → lv g ≠ 0) (Pn : ∀ g, g < 8 → rl_p lv xx xy xw xh sw sh yx yy yw yh R C T B M P1 P2 K xc yc g) (F : fi_F dv sw sh rw rh kw kh) (RE : ∀ q, q < c → kd q = 0 → yrx (nd q) = rx (nd q) ∧ yry (nd q) = ry (nd q) ∧ yrw (nd q) = rw (nd q) ∧ yrh (nd q) = rh (nd q)) :
    ∀ g, g < 8 → rl_p dv rx ry rw rh (fi_A dv 8 rw sw) (fi_A dv 8 rh sh) yrx yry yrw yrh (fi_A dv 8 (fi_r R rh) R) (fi_A dv 8 (fi_r C rw) C) (fi_A dv 8 (fi_t T B rh) T) (fi_A dv 8 (fi_b B rh) B) M P1 P2 K (ce_w (fi_S dv kw kh 8) xc) (ce_w (fi_S dv kw kh 8) yc) g := by
  intro g hg hl
  obtain ⟨q, hq, kq, e⟩ := rl_leaf G hg hl
  have r := RE q hq kq
  rw [e] at r
  exact rl_re hg hl (hd g hg hl) (Pn g hg) F r hl
section RL
variable {f_count f_hostW f_hostH f_focus f_resW f_resH : Int32} {a_kind a_val a_tk a_tv a_live a_wasLive a_rx a_ry a_rw a_rh a_oldW a_oldH a_row a_col a_top a_bot a_mode a_p1 a_p2 a_k a_cells a_sx a_sy a_sw a_sh a_mw a_mh : Nat → Int32}
variable {c : Nat} {nd en : Nat → Nat}
theorem yw_finish {post : SY → Prop} {lw lh xx xy xw xh sw sh dv : Nat → Int32} {kw kh : Nat → Nat} (P : ps_P c a_kind en) (Kd : la_K c a_kind a_val) (hc : c ≤ 15) (hcount : f_count = nI c) (hnd : ∀ i, i < c → a_kind i = 0 → nd i < 8 ∧ a_val i = nI (nd i)) (ND : ∀ a b, a < c → b < c → nd a = nd b → a = b)
    (L : la_L c a_kind nd en lw lh) (E : la_E c a_kind a_val nd en lw lh xx xy xw xh f_hostW f_hostH) (D : ∀ g, g < 8 → ((a_wasLive g ≠ 0 ∧ a_live g ≠ 0) ↔ dv g ≠ 0)) (hl : ∀ g, g < 8 → dv g ≠ 0 → ∃ q, q < c ∧ a_kind q = 0 ∧ nd q = g)
    (F : fi_F dv sw sh xw xh kw kh) (old : ∀ g, g < 8 → dv g ≠ 0 → a_oldW g = sw g ∧ a_oldH g = sh g)
    (K : ∀ (rW rH : Int32) (rx ry rw rh sx sy sw' sh' mw mh : Nat → Int32), (∀ q, q < c → a_kind q = 0 → rx (nd q) = xx (nd q) ∧ ry (nd q) = xy (nd q) ∧ rw (nd q) = xw (nd q) ∧ rh (nd q) = xh (nd q)) →
      post (f_count, f_hostW, f_hostH, f_focus, rW, rH, a_kind, a_val, a_tk, a_tv, a_live, a_wasLive, rx, ry, rw, rh, a_oldW, a_oldH, fi_A dv 8 (fi_r a_row xh) a_row, fi_A dv 8 (fi_r a_col xw) a_col, fi_A dv 8 (fi_t a_top a_bot xh) a_top, fi_A dv 8 (fi_b a_bot xh) a_bot, a_mode, a_p1, a_p2, a_k, ce_w (fi_S dv kw kh 8) a_cells, sx, sy, sw', sh', mw, mh)) : wpY_finish post (f_count, f_hostW, f_hostH, f_focus, f_resW, f_resH, a_kind, a_val, a_tk, a_tv, a_live, a_wasLive, a_rx, a_ry, a_rw, a_rh, a_oldW, a_oldH, a_row, a_col, a_top, a_bot, a_mode, a_p1, a_p2, a_k, a_cells, a_sx, a_sy, a_sw, a_sh, a_mw, a_mh) := by
  unfold wpY_finish
  refine yw_layout P Kd hc hcount hnd ND L E (fun rW rH rx ry rw rh sx sy sw' sh' mw mh RE => ?_)
  have eq : ∀ g, g < 8 → dv g ≠ 0 → rw g = xw g ∧ rh g = xh g := by
    intro g hg hz
    obtain ⟨q, hq, kq, e⟩ := hl g hg hz
    have r := RE q hq kq
    rw [e] at r
    exact ⟨r.2.2.1, r.2.2.2⟩
  refine yw_fin9 (dv := dv) (kw := kw) (kh := kh) D (fi_Fe F (fun g hg hz => ⟨(old g hg hz).1, (old g hg hz).2, (eq g hg hz).1, (eq g hg hz).2⟩)) ?_
  rw [fi_Ae (nw := fi_r a_row rh) (nw' := fi_r a_row xh) (fun g hg hz => by unfold fi_r; rw [(eq g hg hz).2]), fi_Ae (nw := fi_r a_col rw) (nw' := fi_r a_col xw) (fun g hg hz => by unfold fi_r; rw [(eq g hg hz).1]),
    fi_Ae (nw := fi_t a_top a_bot rh) (nw' := fi_t a_top a_bot xh) (fun g hg hz => by unfold fi_t; rw [(eq g hg hz).2]), fi_Ae (nw := fi_b a_bot rh) (nw' := fi_b a_bot xh) (fun g hg hz => by unfold fi_b; rw [(eq g hg hz).2])]
  exact K rW rH rx ry rw rh sx sy sw' sh' mw mh RE
end RL
theorem rl_hnd {c : Nat} {nd en po : Nat → Nat} {root : Int32} {pa fi se ori sh kd vl : Nat → Int32} (T : tr_T c nd en po root pa fi se ori sh kd vl) : ∀ i, i < c → kd i = 0 → nd i < 8 ∧ vl i = nI (nd i) := fun i hi h => (T.2.2.2.2.2.1 i hi).2.2.2.1 h
theorem rl_ND {c : Nat} {nd en po : Nat → Nat} {root : Int32} {pa fi se ori sh kd vl : Nat → Int32} (T : tr_T c nd en po root pa fi se ori sh kd vl) : ∀ a b, a < c → b < c → nd a = nd b → a = b := fun a b ha hb e => tr_inj T ha hb e
theorem i_vc_resizeHost {k : Nat} {u : SX} {v : SY} (I : i_Rel k u v) (hk : k + 4 ≤ 2050) (v1 : Int32) (v2 : Int32) : wpX_resizeHost (fun r u' => wpY_resizeHost (fun r' v' => r' = r ∧ i_Rel (k + 4) u' v') v v1 v2) u v1 v2 := by
  obtain ⟨f_hostWidth, f_hostHeight, f_root, f_focusedPane, f_liveCount, a_parent, a_first, a_second, a_orientation, a_share, a_leastWidth, a_leastHeight, a_rectX, a_rectY, a_rectW, a_rectH, a_order, a_live, a_screenWidth, a_screenHeight, a_cursorRow, a_cursorCol, a_regionTop, a_regionBottom, a_parserMode, a_paramOne, a_paramTwo, a_paramIndex, a_cells⟩ := u
  obtain ⟨f_count, f_hostW, f_hostH, f_focus, f_resW, f_resH, a_kind, a_val, a_tk, a_tv, b_live, a_wasLive, a_rx, a_ry, a_rw, a_rh, a_oldW, a_oldH, a_row, a_col, a_top, a_bot, a_mode, a_p1, a_p2, a_k, b_cells, a_sx, a_sy, a_sw, a_sh, a_mw, a_mh⟩ := v
  obtain ⟨c, nd, en, po, w0, h0, f, J⟩ := I
  obtain ⟨rfl, rfl, rfl, rfl, rfl, j6, rfl, rfl, j9, j10, rfl, rfl, rfl, rfl, rfl, rfl, rfl, rfl, rfl, G, Pn⟩ := J
  obtain ⟨T, L, E, g1, g2, g3, g4, g5, g6, g7⟩ := id G
  obtain ⟨P, T2, T3, T4, T5, T6, T7⟩ := id T
  obtain ⟨w1, ew, x1, x2⟩ := la_clN v1 (a := 8) (b := 24) (by omega) (by omega)
  obtain ⟨h1, eh, y1, y2⟩ := la_clN v2 (a := 4) (b := 12) (by omega) (by omega)
  have ew' : la_cl v1 8 24 = nI w1 := ew
  have eh' : la_cl v2 4 12 = nI h1 := eh
  obtain ⟨a0, b0, ea, eb, m1, m2, m3, m4⟩ := la_Ln P T5 T2 L 0 P.1
  have e0 := P.2.1
  have r15 := (T6 0 P.1).1
  have vr : vp_in f_root 15 := by rw [T3]; exact vi_15 r15
  have er : f_root.toNatClampNeg = nd 0 := by rw [T3]; exact cg_15 r15
  unfold wpX_resizeHost wpY_resizeHost
  refine xw_clamp ?_
  rw [ew']
  refine xw_clamp ?_
  rw [eh']
  refine ⟨vr, ?_⟩
  rw [er, ea, eb]
  have Ym : ∀ post : SY → Prop, (∀ mw mh, post (nI c, nI w0, nI h0, nI f, nI a0, nI b0, a_kind, a_val, a_tk, a_tv, a_live, a_wasLive, a_rx, a_ry, a_rw, a_rh, a_oldW, a_oldH, a_cursorRow, a_cursorCol, a_regionTop, a_regionBottom, a_parserMode, a_paramOne, a_paramTwo, a_paramIndex, b_cells, a_sx, a_sy, a_sw, a_sh, mw, mh)) → wpY_mins post (nI c, nI w0, nI h0, nI f, f_resW, f_resH, a_kind, a_val, a_tk, a_tv, a_live, a_wasLive, a_rx, a_ry, a_rw, a_rh, a_oldW, a_oldH, a_cursorRow, a_cursorCol, a_regionTop, a_regionBottom, a_parserMode, a_paramOne, a_paramTwo, a_paramIndex, b_cells, a_sx, a_sy, a_sw, a_sh, a_mw, a_mh) 0 := by
    intro post h
    refine yw_mins (i := 0) P T5 T2 rfl L P.1 ?_
    rw [ea, eb]
    exact h
  have No : ∀ mw mh, i_Rel (k + 4) (nI w0, nI h0, f_root, nI f, f_liveCount, a_parent, a_first, a_second, a_orientation, a_share, a_leastWidth, a_leastHeight, a_rectX, a_rectY, a_rectW, a_rectH, a_order, a_live, a_screenWidth, a_screenHeight, a_cursorRow, a_cursorCol, a_regionTop, a_regionBottom, a_parserMode, a_paramOne, a_paramTwo, a_paramIndex, a_cells) (nI c, nI w0, nI h0, nI f, nI a0, nI b0, a_kind, a_val, a_tk, a_tv, a_live, a_wasLive, a_rx, a_ry, a_rw, a_rh, a_oldW, a_oldH, a_cursorRow, a_cursorCol, a_regionTop, a_regionBottom, a_parserMode, a_paramOne, a_paramTwo, a_paramIndex, b_cells, a_sx, a_sy, a_sw, a_sh, mw, mh) := fun mw mh => ⟨c, nd, en, po, w0, h0, f, rfl, rfl, rfl, rfl, rfl, j6, rfl, rfl, j9, j10, rfl, rfl, rfl, rfl, rfl, rfl, rfl, rfl, rfl, G, Pn⟩
  refine pk_lt w1 a0 (fun z => ?_) (fun z => ⟨vr, pk_le b0 h1 (fun y => ?_) (fun y => ?_)⟩)
  · refine yw_clamp _ ?_
    rw [ew']
    refine yw_clamp _ ?_
    rw [eh']
    exact Ym _ (fun mw mh => br_t (nI_lt z (by omega)) ⟨rfl, No mw mh⟩)
  · refine xw_layOut T (fun lw lh rx ry rw rh ord L' E' => ?_)
    have G' : rl_G c nd en po w1 h1 f_root a_parent a_first a_second a_orientation a_share lw lh rx ry rw rh a_kind a_val a_live :=
      ⟨T, L', E', x1, x2, y1, y2, rl_m0 P T5 L L' (rl_ex ⟨a0, ea, z⟩ x2), rl_n0 P T5 L L' (rl_ex ⟨b0, eb, y⟩ (by omega)), g7⟩
    have F := rl_F (dv := a_live) G' (fun g hg hl => ⟨hl, hl⟩) Pn
    refine xw_fits F ?_
    refine yw_clamp _ ?_
    rw [ew']
    refine yw_clamp _ ?_
    rw [eh']
    refine Ym _ (fun mw mh => br_f (nI_nlt z (by omega)) (br_t (nI_le y (by omega)) (yw_save (fun p hp => (g7 p hp).1) (fun wl ow oh hs => ?_))))
    refine yw_finish (dv := a_live) P T5 T2 rfl (rl_hnd T) (rl_ND T) L' E' (fun g hg => by rw [(hs g hg).1]; exact ⟨fun q => q.1, fun q => ⟨q, q⟩⟩) (fun g hg hl => rl_leaf G' hg hl) F (fun g hg hl => ?_) (fun rW rH yrx yry yrw yrh sx sy sw' sh' mw mh RE => ⟨rfl, c, nd, en, po, w1, h1, f, ?_⟩)
    · obtain ⟨a1, a2, a3, a4, a5, a6, _⟩ := Pn g hg hl
      exact ⟨(hs g hg).2.1.trans (a3.trans a5.symm), (hs g hg).2.2.trans (a4.trans a6.symm)⟩
    · exact ⟨rfl, rfl, rfl, rfl, rfl, j6, rfl, rfl, j9, j10, rfl, rfl, rfl, rfl, rfl, rfl, rfl, rfl, rfl, G', rl_fin G' (fun g hg hl => hl) Pn F RE⟩
  · refine yw_clamp _ ?_
    rw [ew']
    refine yw_clamp _ ?_
    rw [eh']
    exact Ym _ (fun mw mh => br_f (nI_nlt z (by omega)) (br_f (nI_ge y (by omega)) ⟨rfl, No mw mh⟩))
