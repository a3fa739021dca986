theorem pr_resize {u v : St2} {A : Int32 → St2 → Prop} (v1 v2 : Int32) (R : pr_R u v) (K : ∀ r u', (∀ B : Int32 → St2 → Prop, (∀ r' v', pr_R u' v' → B r' v') → wpX_resizeHost B v v1 v2) → A r u') : wpX_resizeHost A u v1 v2 := by
  obtain ⟨f_hostWidth, f_hostHeight, f_root, f_focusedPane, f_liveCount, a_parent, a_first, a_second, a_orientation, a_share, a_leastWidth, a_leastHeight, a_rectX, a_rectY, a_rectW, a_rectH, a_order, a_live, a_screenWidth, a_screenHeight, a_cursorRow, a_cursorCol, a_regionTop, a_regionBottom, a_parserMode, a_paramOne, a_paramTwo, a_paramIndex, a_cells⟩ := u
  obtain ⟨f_bhostWidth, f_bhostHeight, f_broot, f_bfocusedPane, f_bliveCount, a_bparent, a_bfirst, a_bsecond, a_borientation, a_bshare, a_bleastWidth, a_bleastHeight, a_brectX, a_brectY, a_brectW, a_brectH, a_border, a_blive, a_bscreenWidth, a_bscreenHeight, a_bcursorRow, a_bcursorCol, a_bregionTop, a_bregionBottom, a_bparserMode, a_bparamOne, a_bparamTwo, a_bparamIndex, a_bcells⟩ := v
  obtain ⟨c, kd, vl, nd, nb, en, po, pb, w0, h0, f, J⟩ := R
  have J0 := J
  obtain ⟨rfl, rfl, rfl, rfl, j5, rfl, rfl, j8, j9, rfl, rfl, rfl, rfl, rfl, rfl, rfl, rfl, rfl, rfl, Ga, Gb, Pn, Sb⟩ := J
  have R0 : pr_R (nI w0, nI h0, f_root, nI f, f_liveCount, a_parent, a_first, a_second, a_orientation, a_share, a_leastWidth, a_leastHeight, a_rectX, a_rectY, a_rectW, a_rectH, a_order, a_live, a_screenWidth, a_screenHeight, a_cursorRow, a_cursorCol, a_regionTop, a_regionBottom, a_parserMode, a_paramOne, a_paramTwo, a_paramIndex, a_cells) (nI w0, nI h0, f_broot, nI f, f_liveCount, a_bparent, a_bfirst, a_bsecond, a_borientation, a_bshare, a_bleastWidth, a_bleastHeight, a_brectX, a_brectY, a_brectW, a_brectH, a_border, a_live, a_bscreenWidth, a_bscreenHeight, a_cursorRow, a_cursorCol, a_regionTop, a_regionBottom, a_parserMode, a_paramOne, a_paramTwo, a_paramIndex, a_bcells) := ⟨c, kd, vl, nd, nb, en, po, pb, w0, h0, f, J0⟩
  obtain ⟨T, L, E, g1, g2, g3, g4, g5, g6, g7⟩ := id Ga
  obtain ⟨Tb, Lb, Eb, d1, d2, d3, d4, d5, d6, d7⟩ := id Gb
  obtain ⟨P, T2, T3, T4, T5, T6, T7⟩ := id T
  obtain ⟨Pb, U2, U3, U4, U5, U6, U7⟩ := id Tb
  obtain ⟨w1, ew, x1, x2⟩ := la_clN v1 (a := 8) (b := 24) (by omega) (by omega)
  obtain ⟨h1, eh, y1, y2⟩ := la_clN v2 (a := 4) (b := 12) (by omega) (by omega)
  have ew' : la_cl v1 8 24 = nI w1 := ew
  have eh' : la_cl v2 4 12 = nI h1 := eh
  obtain ⟨a0, b0, ea, eb, m1, m2, m3, m4⟩ := la_Ln P T5 T2 L 0 P.1
  have e0 := P.2.1
  have un := (pr_un Ga Gb).1 0 P.1
  have ea' := un.1.trans ea
  have eb' := un.2.1.trans eb
  have r15 := (T6 0 P.1).1
  have vr : vp_in f_root 15 := by rw [T3]; exact vi_15 r15
  have er : f_root.toNatClampNeg = nd 0 := by rw [T3]; exact cg_15 r15
  have r15b := (U6 0 P.1).1
  have vrb : vp_in f_broot 15 := by rw [U3]; exact vi_15 r15b
  have erb : f_broot.toNatClampNeg = nb 0 := by rw [U3]; exact cg_15 r15b
  unfold wpX_resizeHost
  refine xw_clamp ?_
  rw [ew']
  refine xw_clamp ?_
  rw [eh']
  refine ⟨vr, ?_⟩
  rw [er, ea, eb]
  refine pk_lt w1 a0 (fun z => ?_) (fun z => ⟨vr, pk_le b0 h1 (fun y => ?_) (fun y => ?_)⟩)
  · refine K _ _ (fun B KB => ?_)
    unfold wpX_resizeHost
    refine xw_clamp ?_
    rw [ew']
    refine xw_clamp ?_
    rw [eh']
    refine ⟨vrb, ?_⟩
    rw [erb, ea', eb']
    exact br_t (nI_lt z (by omega)) (KB _ _ R0)
  · refine xw_layOut T (fun lw lh rx ry rw rh ord L' E' => ?_)
    have Ga' : rl_G c nd en po w1 h1 f_root a_parent a_first a_second a_orientation a_share lw lh rx ry rw rh kd vl a_live :=
      ⟨T, L', E', x1, x2, y1, y2, rl_m0 P T5 L L' (rl_ex ⟨a0, ea, z⟩ x2), rl_n0 P T5 L L' (rl_ex ⟨b0, eb, y⟩ (by omega)), g7⟩
    have F := rl_F (dv := a_live) Ga' (fun g hg hl => ⟨hl, hl⟩) Pn
    refine xw_fits F (K _ _ (fun B KB => ?_))
    unfold wpX_resizeHost
    refine xw_clamp ?_
    rw [ew']
    refine xw_clamp ?_
    rw [eh']
    refine ⟨vrb, ?_⟩
    rw [erb, ea', eb']
    refine br_f (nI_nlt z (by omega)) ⟨vrb, br_t (nI_le y (by omega)) (xw_layOut Tb (fun lw' lh' rx' ry' rw' rh' ord' M' N' => ?_))⟩
    have Gb' : rl_G c nb en pb w1 h1 f_broot a_bparent a_bfirst a_bsecond a_borientation a_bshare lw' lh' rx' ry' rw' rh' kd vl a_live :=
      ⟨Tb, M', N', x1, x2, y1, y2, rl_m0 Pb U5 Lb M' (rl_ex ⟨a0, ea', z⟩ x2), rl_n0 Pb U5 Lb M' (rl_ex ⟨b0, eb', y⟩ (by omega)), d7⟩
    obtain ⟨Fb, q1, q2, q3, q4, q5, q6⟩ := pr_fin Ga' Gb' (fun g hg hl => hl) Pn Sb F
    refine xw_fits Fb ?_
    rw [q1, q2, q3, q4]
    exact KB _ _ ⟨c, kd, vl, nd, nb, en, po, pb, w1, h1, f, rfl, rfl, rfl, rfl, j5, rfl, rfl, j8, j9, rfl, rfl, rfl, rfl, rfl, rfl, rfl, rfl, rfl, rfl, Ga', Gb', q5, q6⟩
  · refine K _ _ (fun B KB => ?_)
    unfold wpX_resizeHost
    refine xw_clamp ?_
    rw [ew']
    refine xw_clamp ?_
    rw [eh']
    refine ⟨vrb, ?_⟩
    rw [erb, ea', eb']
    exact br_f (nI_nlt z (by omega)) ⟨vrb, br_f (nI_ge y (by omega)) (KB _ _ R0)⟩
section PS
variable {f_hostWidth f_hostHeight f_root f_focusedPane f_liveCount : Int32} {a_parent a_first a_second a_orientation a_share a_leastWidth a_leastHeight a_rectX a_rectY a_rectW a_rectH a_order a_live a_screenWidth a_screenHeight a_cursorRow a_cursorCol a_regionTop a_regionBottom a_parserMode a_paramOne a_paramTwo a_paramIndex a_cells : Nat → Int32} {f_bhostWidth f_bhostHeight f_broot f_bfocusedPane f_bliveCount : Int32} {a_bparent a_bfirst a_bsecond a_borientation a_bshare a_bleastWidth a_bleastHeight a_brectX a_brectY a_brectW a_brectH a_border a_blive a_bscreenWidth a_bscreenHeight a_bcursorRow a_bcursorCol a_bregionTop a_bregionBottom a_bparserMode a_bparamOne a_bparamTwo a_bparamIndex a_bcells : Nat → Int32}
variable {c : Nat} {kd vl : Nat → Int32} {nd nb en po pb : Nat → Nat} {w0 h0 f : Nat}
theorem pr_share1 {A : Int32 → St2 → Prop} {v1 v2 : Int32} (J : pr_J (nI w0) (nI h0) f_root (nI f) f_liveCount a_parent a_first a_second a_orientation a_share a_leastWidth a_leastHeight a_rectX a_rectY a_rectW a_rectH a_order a_live a_screenWidth a_screenHeight a_cursorRow a_cursorCol a_regionTop a_regionBottom a_parserMode a_paramOne a_paramTwo a_paramIndex a_cells (nI w0) (nI h0) f_broot (nI f) f_liveCount a_bparent a_bfirst a_bsecond a_borientation a_bshare a_bleastWidth a_bleastHeight a_brectX a_brectY a_brectW a_brectH a_border a_live a_bscreenWidth a_bscreenHeight a_cursorRow a_cursorCol a_regionTop a_regionBottom a_parserMode a_paramOne a_paramTwo a_paramIndex a_bcells c kd vl nd nb en po pb w0 h0 f) (hv : v1 = 1 ∨ v1 = 2) (K : ∀ r u', (∀ B : Int32 → St2 → Prop, (∀ r' v', pr_R u' v' → B r' v') → wpX_setShare B (nI w0, nI h0, f_broot, nI f, f_liveCount, a_bparent, a_bfirst, a_bsecond, a_borientation, a_bshare, a_bleastWidth, a_bleastHeight, a_brectX, a_brectY, a_brectW, a_brectH, a_border, a_live, a_bscreenWidth, a_bscreenHeight, a_cursorRow, a_cursorCol, a_regionTop, a_regionBottom, a_parserMode, a_paramOne, a_paramTwo, a_paramIndex, a_bcells) v1 v2) → A r u') : wX_setShare_12 A v1 v2 (nI w0) (nI h0) f_root (nI f) f_liveCount a_parent a_first a_second a_orientation a_share a_leastWidth a_leastHeight a_rectX a_rectY a_rectW a_rectH a_order a_live a_screenWidth a_screenHeight a_cursorRow a_cursorCol a_regionTop a_regionBottom a_parserMode a_paramOne a_paramTwo a_paramIndex a_cells := by
  have J0 := J
  obtain ⟨_, _, _, _, j5, _, _, j8, j9, _, _, _, _, _, _, _, _, _, _, Ga, Gb, Pn, Sb⟩ := J
  have R0 : pr_R (nI w0, nI h0, f_root, nI f, f_liveCount, a_parent, a_first, a_second, a_orientation, a_share, a_leastWidth, a_leastHeight, a_rectX, a_rectY, a_rectW, a_rectH, a_order, a_live, a_screenWidth, a_screenHeight, a_cursorRow, a_cursorCol, a_regionTop, a_regionBottom, a_parserMode, a_paramOne, a_paramTwo, a_paramIndex, a_cells) (nI w0, nI h0, f_broot, nI f, f_liveCount, a_bparent, a_bfirst, a_bsecond, a_borientation, a_bshare, a_bleastWidth, a_bleastHeight, a_brectX, a_brectY, a_brectW, a_brectH, a_border, a_live, a_bscreenWidth, a_bscreenHeight, a_cursorRow, a_cursorCol, a_regionTop, a_regionBottom, a_parserMode, a_paramOne, a_paramTwo, a_paramIndex, a_bcells) := ⟨c, kd, vl, nd, nb, en, po, pb, w0, h0, f, J0⟩
  obtain ⟨T, L, E, g1, g2, g3, g4, g5, g6, g7⟩ := id Ga
  obtain ⟨Tb, Lb, Eb, d1, d2, d3, d4, d5, d6, d7⟩ := id Gb
  obtain ⟨P, T2, T3, T4, T5, T6, T7⟩ := id T
  obtain ⟨Pb, U2, U3, U4, U5, U6, U7⟩ := id Tb
  obtain ⟨p, hp, kp, ep⟩ := rl_leaf Ga j5 j8
  have lf := (pr_un Ga Gb).2
  have epb : nb p = f := (lf p hp kp).trans ep
  have hv0 : v1 ≠ 0 := by rcases hv with h | h <;> subst h <;> decide
  have Y0 : ∀ post : Int32 → St2 → Prop, wX_setShare_12 post v1 v2 (nI w0) (nI h0) f_broot (nI f) f_liveCount a_bparent a_bfirst a_bsecond a_borientation a_bshare a_bleastWidth a_bleastHeight a_brectX a_brectY a_brectW a_brectH a_border a_live a_bscreenWidth a_bscreenHeight a_cursorRow a_cursorCol a_regionTop a_regionBottom a_parserMode a_paramOne a_paramTwo a_paramIndex a_bcells → wpX_setShare post (nI w0, nI h0, f_broot, nI f, f_liveCount, a_bparent, a_bfirst, a_bsecond, a_borientation, a_bshare, a_bleastWidth, a_bleastHeight, a_brectX, a_brectY, a_brectW, a_brectH, a_border, a_live, a_bscreenWidth, a_bscreenHeight, a_cursorRow, a_cursorCol, a_regionTop, a_regionBottom, a_parserMode, a_paramOne, a_paramTwo, a_paramIndex, a_bcells) v1 v2 := by
    intro post K
    rcases hv with h | h
    · exact br_t h K
    · by_cases y : v1 = 1
      · exact br_t y K
      · exact br_f y (br_t h K)
  obtain ⟨s, es, s1, s2⟩ := la_clN v2 (a := 1) (b := 99) (by omega) (by omega)
  have es' : la_cl v2 1 99 = nI s := es
  refine xw_climb T hp kp hv0 (by rw [ep]) (fun N0 => ?_) (fun b Bq => ?_)
  · exact K _ _ (fun B KB => Y0 _ (xw_climb Tb hp kp hv0 (by rw [epb]) (fun _ => KB _ _ R0) (fun b' B' => absurd ⟨B'.2.1, B'.2.2.1⟩ (N0 b' B'.1))))
  · have bc : b < c := by have := Bq.1; omega
    have bk : kd b ≠ 0 := by rw [Bq.2.1]; exact hv0
    have b15 := (T6 b bc).1
    have b15' := (U6 b bc).1
    refine br_f (tr_m1 (by omega)) (xw_clamp ?_)
    rw [es']
    have T' := tr_share T bc bk s1 s2
    have Tb' := tr_share Tb bc bk s1 s2
    refine ⟨vi_15 b15, nm_r (e' := upd a_share (nd b) (nI s)) (by rw [cg_15 b15]) (xw_layOut T' (fun lw lh rx ry rw rh ord L' E' => ?_))⟩
    have Ga' : rl_G c nd en po w0 h0 f_root a_parent a_first a_second a_orientation (upd a_share (nd b) (nI s)) lw lh rx ry rw rh kd (upd vl b (nI s)) a_live :=
      ⟨T', L', E', g1, g2, g3, g4, rl_m0 P T5 L L' g5, rl_n0 P T5 L L' g6, g7⟩
    have F := rl_F (dv := a_live) Ga' (fun g hg hl => ⟨hl, hl⟩) Pn
    refine xw_fits F (K _ _ (fun B KB => Y0 _ (xw_climb Tb hp kp hv0 (by rw [epb]) (fun n0 => absurd ⟨Bq.2.1, Bq.2.2.1⟩ (n0 b Bq.1)) (fun b' B' => ?_))))
    have eb := an_un B' Bq
    subst eb
    refine br_f (tr_m1 (by omega)) (xw_clamp ?_)
    rw [es']
    refine ⟨vi_15 b15', nm_r (e' := upd a_bshare (nb b') (nI s)) (by rw [cg_15 b15']) (xw_layOut Tb' (fun lw' lh' rx' ry' rw' rh' ord' M' N' => ?_))⟩
    have Gb' : rl_G c nb en pb w0 h0 f_broot a_bparent a_bfirst a_bsecond a_borientation (upd a_bshare (nb b') (nI s)) lw' lh' rx' ry' rw' rh' kd (upd vl b' (nI s)) a_live :=
      ⟨Tb', M', N', d1, d2, d3, d4, rl_m0 Pb U5 Lb M' d5, rl_n0 Pb U5 Lb M' d6, d7⟩
    obtain ⟨Fb, q1, q2, q3, q4, q5, q6⟩ := pr_fin Ga' Gb' (fun g hg hl => hl) Pn Sb F
    refine xw_fits Fb ?_
    rw [q1, q2, q3, q4]
    exact KB _ _ ⟨c, kd, upd vl b' (nI s), nd, nb, en, po, pb, w0, h0, f, rfl, rfl, rfl, rfl, j5, rfl, rfl, j8, j9, rfl, rfl, rfl, rfl, rfl, rfl, rfl, rfl, rfl, rfl, Ga', Gb', q5, q6⟩
end PS
theorem pr_share {u v : St2} {A : Int32 → St2 → Prop} (v1 v2 : Int32) (R : pr_R u v) (K : ∀ r u', (∀ B : Int32 → St2 → Prop, (∀ r' v', pr_R u' v' → B r' v') → wpX_setShare B v v1 v2) → A r u') : wpX_setShare A u v1 v2 := by
  obtain ⟨f_hostWidth, f_hostHeight, f_root, f_focusedPane, f_liveCount, a_parent, a_first, a_second, a_orientation, a_share, a_leastWidth, a_leastHeight, a_rectX, a_rectY, a_rectW, a_rectH, a_order, a_live, a_screenWidth, a_screenHeight, a_cursorRow, a_cursorCol, a_regionTop, a_regionBottom, a_parserMode, a_paramOne, a_paramTwo, a_paramIndex, a_cells⟩ := u
  obtain ⟨f_bhostWidth, f_bhostHeight, f_broot, f_bfocusedPane, f_bliveCount, a_bparent, a_bfirst, a_bsecond, a_borientation, a_bshare, a_bleastWidth, a_bleastHeight, a_brectX, a_brectY, a_brectW, a_brectH, a_border, a_blive, a_bscreenWidth, a_bscreenHeight, a_bcursorRow, a_bcursorCol, a_bregionTop, a_bregionBottom, a_bparserMode, a_bparamOne, a_bparamTwo, a_bparamIndex, a_bcells⟩ := v
  obtain ⟨c, kd, vl, nd, nb, en, po, pb, w0, h0, f, J⟩ := R
  have J0 := J
  obtain ⟨rfl, rfl, rfl, rfl, j5, rfl, rfl, j8, j9, rfl, rfl, rfl, rfl, rfl, rfl, rfl, rfl, rfl, rfl, Ga, Gb, Pn, Sb⟩ := J
  by_cases h1 : v1 = 1
  · exact br_t h1 (pr_share1 J0 (Or.inl h1) K)
  · by_cases h2 : v1 = 2
    · exact br_f h1 (br_t h2 (pr_share1 J0 (Or.inr h2) K))
    · exact br_f h1 (br_f h2 (K _ _ (fun B KB => br_f h1 (br_f h2 (KB _ _ ⟨c, kd, vl, nd, nb, en, po, pb, w0, h0, f, J0⟩)))))
