/-- a parameter, or one -/
def fd_n (a : Nat) : Nat := if a = 0 then 1 else a
theorem fd_n1 (a : Nat) (h : a ≤ 99) : 1 ≤ fd_n a ∧ fd_n a ≤ 99 := by unfold fd_n; split <;> omega
theorem xw_orOne {post : Int32 → Prop} {a : Nat} (ha : a ≤ 99) (K : post (nI (fd_n a))) : wpX_orOne post (nI a) := by
  unfold fd_n at K
  refine pk_le a 0 (fun z => ?_) (fun z => ?_)
  · rw [if_pos (by omega)] at K; exact K
  · rw [if_neg (by omega)] at K; exact K
theorem la_mxs {a b : Nat} (ha : a < 1000) (hb : b < 1000) : la_mx 0 (nI a - nI b) = nI (a - b) := by
  by_cases h : b ≤ a
  · rw [pk_sub h]
    have := la_mxN (a := 0) (b := a - b) (by omega) (by omega)
    rw [if_pos (Nat.zero_le _)] at this
    exact this
  · have s := pk_sneg (a := a) (b := b) (by omega) (by omega)
    unfold la_mx
    rw [if_neg (fun z => absurd s (Int32.not_lt.mpr z)), show a - b = 0 by omega]
    rfl
theorem la_mns {a b : Nat} (ha : 1 ≤ a) (hb : b < 1000) (ha' : a < 1000) : la_mn (nI a - 1) (nI b) = nI (if b ≤ a - 1 then b else a - 1) := by
  rw [la_sub1 ha, la_mnN (by omega) (by omega)]
/-- the last line of a region -/
def fd_z (d h : Nat) : Nat := if d = 0 then h else if h ≤ d then h else d
section FF
variable {f_hostWidth f_hostHeight f_root f_focusedPane f_liveCount : Int32} {a_parent a_first a_second a_orientation a_share a_leastWidth a_leastHeight a_rectX a_rectY a_rectW a_rectH a_order a_live a_screenWidth a_screenHeight a_cursorRow a_cursorCol a_regionTop a_regionBottom a_parserMode a_paramOne a_paramTwo a_paramIndex a_cells : Nat → Int32} {f_count f_hostW f_hostH f_focus f_resW f_resH : Int32} {a_kind a_val a_tk a_tv b_live a_wasLive a_rx a_ry a_rw a_rh a_oldW a_oldH a_row a_col a_top a_bot a_mode a_p1 a_p2 a_k b_cells a_sx a_sy a_sw a_sh a_mw a_mh : Nat → Int32}
variable {c : Nat} {nd en po : Nat → Nat} {w0 h0 f : Nat} {k g w h r q t b m a d kk v : Nat} {v2 : Int32}
theorem yw_final {post : SY → Prop} (hg : g < 8) (hA : a_p1 g = nI a) (hD : a_p2 g = nI d) (ha : a ≤ 99) (hd : d ≤ 99) (K : wY_finalByte_39 post (nI g) (nI v) (nI (fd_n a)) (nI (fd_n d)) f_count f_hostW f_hostH f_focus f_resW f_resH a_kind a_val a_tk a_tv b_live a_wasLive a_rx a_ry a_rw a_rh a_oldW a_oldH a_row a_col a_top a_bot a_mode a_p1 a_p2 a_k b_cells a_sx a_sy a_sw a_sh a_mw a_mh) : wpY_finalByte post (f_count, f_hostW, f_hostH, f_focus, f_resW, f_resH, a_kind, a_val, a_tk, a_tv, b_live, a_wasLive, a_rx, a_ry, a_rw, a_rh, a_oldW, a_oldH, a_row, a_col, a_top, a_bot, a_mode, a_p1, a_p2, a_k, b_cells, a_sx, a_sy, a_sw, a_sh, a_mw, a_mh) (nI g) (nI v) := by
  have v8 := vi_8 hg
  have e := cg_8 hg
  have B : ∀ z, z = nI (fd_n a) → wY_finalByte_19 post (nI g) (nI v) z f_count f_hostW f_hostH f_focus f_resW f_resH a_kind a_val a_tk a_tv b_live a_wasLive a_rx a_ry a_rw a_rh a_oldW a_oldH a_row a_col a_top a_bot a_mode a_p1 a_p2 a_k b_cells a_sx a_sy a_sw a_sh a_mw a_mh := by
    intro z hz
    subst hz
    refine ⟨v8, ?_⟩
    rw [e, hD]
    refine pk_le d 0 (fun y => ?_) (fun y => ⟨v8, ?_⟩)
    · unfold fd_n at K ⊢
      rw [if_pos (show d = 0 by omega)] at K
      exact K
    · have ed : fd_n d = d := by unfold fd_n; rw [if_neg (by omega)]
      rw [ed] at K
      exact K
  refine ⟨v8, ?_⟩
  rw [e, hA]
  refine pk_le a 0 (fun y => B 1 ?_) (fun y => ⟨v8, B _ ?_⟩)
  · unfold fd_n; rw [if_pos (by omega)]; rfl
  · unfold fd_n; rw [if_neg (by omega)]
theorem yw_feedF {post : Int32 → SY → Prop} {p1 : Int32} (hg : g < 8) (hl : b_live g ≠ 0) (e : p1 &&& 255 = nI v) (hM : a_mode g = 2) (h1 : 64 ≤ v) (h2 : v ≤ 126) (hA : a_p1 g = nI a) (hD : a_p2 g = nI d) (ha : a ≤ 99) (hd : d ≤ 99)
    (K : wY_finalByte_39 (fun u => post 1 u) (nI g) (nI v) (nI (fd_n a)) (nI (fd_n d)) f_count f_hostW f_hostH f_focus f_resW f_resH a_kind a_val a_tk a_tv b_live a_wasLive a_rx a_ry a_rw a_rh a_oldW a_oldH a_row a_col a_top a_bot (upd a_mode g 0) a_p1 a_p2 a_k b_cells a_sx a_sy a_sw a_sh a_mw a_mh) : wpY_feed post (f_count, f_hostW, f_hostH, f_focus, f_resW, f_resH, a_kind, a_val, a_tk, a_tv, b_live, a_wasLive, a_rx, a_ry, a_rw, a_rh, a_oldW, a_oldH, a_row, a_col, a_top, a_bot, a_mode, a_p1, a_p2, a_k, b_cells, a_sx, a_sy, a_sw, a_sh, a_mw, a_mh) (nI g) p1 := by
  refine yw_feedO hg hl e (by omega) hM (Or.inr (by omega)) (br_f (fun z => ?_) (br_f (nI_nlt (b := 64) h1 (by omega)) (br_f (nI_nlt (a := 126) h2 (by omega)) ⟨vi_8 hg, nm_r (e' := upd a_mode g 0) (by rw [cg_8 hg]) (yw_final hg hA hD ha hd K)⟩)))
  have := (nI_eq (a := v) (b := 59) (by omega) (by omega)).mp z
  omega
theorem xw_reg {post : SX → Prop} {n1 : Nat} (hg : g < 8) (hH : a_screenHeight g = nI h) (hD : a_paramTwo g = nI d) (hd : d ≤ 99) (h1 : 1 ≤ h) (h4 : h ≤ 12) (n1l : 1 ≤ n1) (n1u : n1 ≤ 99) (k0 : fd_z d h ≤ n1 → post (f_hostWidth, f_hostHeight, f_root, f_focusedPane, f_liveCount, a_parent, a_first, a_second, a_orientation, a_share, a_leastWidth, a_leastHeight, a_rectX, a_rectY, a_rectW, a_rectH, a_order, a_live, a_screenWidth, a_screenHeight, a_cursorRow, a_cursorCol, a_regionTop, a_regionBottom, a_parserMode, a_paramOne, a_paramTwo, a_paramIndex, a_cells))
    (k1 : n1 < fd_z d h → post (f_hostWidth, f_hostHeight, f_root, f_focusedPane, f_liveCount, a_parent, a_first, a_second, a_orientation, a_share, a_leastWidth, a_leastHeight, a_rectX, a_rectY, a_rectW, a_rectH, a_order, a_live, a_screenWidth, a_screenHeight, upd a_cursorRow g 0, upd a_cursorCol g 0, upd a_regionTop g (nI (n1 - 1)), upd a_regionBottom g (nI (fd_z d h - 1)), a_parserMode, a_paramOne, a_paramTwo, a_paramIndex, a_cells)) : wpX_setRegion post (f_hostWidth, f_hostHeight, f_root, f_focusedPane, f_liveCount, a_parent, a_first, a_second, a_orientation, a_share, a_leastWidth, a_leastHeight, a_rectX, a_rectY, a_rectW, a_rectH, a_order, a_live, a_screenWidth, a_screenHeight, a_cursorRow, a_cursorCol, a_regionTop, a_regionBottom, a_parserMode, a_paramOne, a_paramTwo, a_paramIndex, a_cells) (nI g) (nI n1) := by
  have v8 := vi_8 hg
  have e := cg_8 hg
  have zb : 1 ≤ fd_z d h ∧ fd_z d h ≤ 12 := by unfold fd_z; (repeat' split) <;> omega
  have B : ∀ z, z = nI (fd_z d h) → wX_setRegion_30 post (nI g) (nI n1) z f_hostWidth f_hostHeight f_root f_focusedPane f_liveCount a_parent a_first a_second a_orientation a_share a_leastWidth a_leastHeight a_rectX a_rectY a_rectW a_rectH a_order a_live a_screenWidth a_screenHeight a_cursorRow a_cursorCol a_regionTop a_regionBottom a_parserMode a_paramOne a_paramTwo a_paramIndex a_cells := by
    intro z hz
    subst hz
    exact pk_le (fd_z d h) n1 (fun y => k0 y) (fun y => ⟨v8, nm_r (e' := upd a_regionTop g (nI (n1 - 1))) (by rw [e, la_sub1 n1l]) ⟨v8, nm_r (e' := upd a_regionBottom g (nI (fd_z d h - 1))) (by rw [e, la_sub1 zb.1]) ⟨v8, nm_r (e' := upd a_cursorRow g 0) (by rw [e]) ⟨v8, nm_r (e' := upd a_cursorCol g 0) (by rw [e]) (k1 y)⟩⟩⟩⟩)
  refine ⟨v8, nm_r (e' := nI h) (by rw [e]; exact hH) ⟨v8, ?_⟩⟩
  rw [e, hD]
  refine pk_le d 0 (fun y => B _ ?_) (fun y => ⟨v8, xw_smaller (B _ ?_)⟩)
  · unfold fd_z; rw [if_pos (by omega)]
  · unfold fd_z; rw [if_neg (by omega), la_mnN (by omega) (by omega)]
theorem yw_reg {post : SY → Prop} {n1 : Nat} (hg : g < 8) (hD : a_p2 g = nI d) (hd : d ≤ 99) (h1 : 1 ≤ h) (h4 : h ≤ 12) (n1l : 1 ≤ n1) (n1u : n1 ≤ 99) (k0 : fd_z d h ≤ n1 → post (f_count, f_hostW, f_hostH, f_focus, f_resW, f_resH, a_kind, a_val, a_tk, a_tv, b_live, a_wasLive, a_rx, a_ry, a_rw, a_rh, a_oldW, a_oldH, a_row, a_col, a_top, a_bot, a_mode, a_p1, a_p2, a_k, b_cells, a_sx, a_sy, a_sw, a_sh, a_mw, a_mh))
    (k1 : n1 < fd_z d h → post (f_count, f_hostW, f_hostH, f_focus, f_resW, f_resH, a_kind, a_val, a_tk, a_tv, b_live, a_wasLive, a_rx, a_ry, a_rw, a_rh, a_oldW, a_oldH, upd a_row g 0, upd a_col g 0, upd a_top g (nI (n1 - 1)), upd a_bot g (nI (fd_z d h - 1)), a_mode, a_p1, a_p2, a_k, b_cells, a_sx, a_sy, a_sw, a_sh, a_mw, a_mh)) :
    ((a_p2 (nI g).toNatClampNeg ≤ 0 → wY_finalByte_380 post (nI g) (nI h) (nI n1) (nI h) f_count f_hostW f_hostH f_focus f_resW f_resH a_kind a_val a_tk a_tv b_live a_wasLive a_rx a_ry a_rw a_rh a_oldW a_oldH a_row a_col a_top a_bot a_mode a_p1 a_p2 a_k b_cells a_sx a_sy a_sw a_sh a_mw a_mh) ∧ (¬ a_p2 (nI g).toNatClampNeg ≤ 0 → vp_in (nI g) 8 ∧ wY_finalByte_380 post (nI g) (nI h) (nI n1) (a_p2 (nI g).toNatClampNeg) f_count f_hostW f_hostH f_focus f_resW f_resH a_kind a_val a_tk a_tv b_live a_wasLive a_rx a_ry a_rw a_rh a_oldW a_oldH a_row a_col a_top a_bot a_mode a_p1 a_p2 a_k b_cells a_sx a_sy a_sw a_sh a_mw a_mh)) := by
  have v8 := vi_8 hg
  have e := cg_8 hg
  have zb : 1 ≤ fd_z d h ∧ fd_z d h ≤ 12 := by unfold fd_z; (repeat' split) <;> omega
  have B : ∀ z, z = nI (fd_z d h) → wY_finalByte_393 post (nI g) (nI n1) z f_count f_hostW f_hostH f_focus f_resW f_resH a_kind a_val a_tk a_tv b_live a_wasLive a_rx a_ry a_rw a_rh a_oldW a_oldH a_row a_col a_top a_bot a_mode a_p1 a_p2 a_k b_cells a_sx a_sy a_sw a_sh a_mw a_mh := by
    intro z hz
    subst hz
    exact pk_le (fd_z d h) n1 (fun y => k0 y) (fun y => ⟨v8, nm_r (e' := upd a_top g (nI (n1 - 1))) (by rw [e, la_sub1 n1l]) ⟨v8, nm_r (e' := upd a_bot g (nI (fd_z d h - 1))) (by rw [e, la_sub1 zb.1]) ⟨v8, nm_r (e' := upd a_row g 0) (by rw [e]) ⟨v8, nm_r (e' := upd a_col g 0) (by rw [e]) (k1 y)⟩⟩⟩⟩)
  rw [e, hD]
  refine pk_le d 0 (fun y => ?_) (fun y => ⟨v8, ?_⟩)
  · refine pk_le h h (fun _ => B _ ?_) (fun x => by omega)
    unfold fd_z; rw [if_pos (by omega)]
  · refine pk_le d h (fun x => B _ ?_) (fun x => B _ ?_)
    · unfold fd_z
      rw [if_neg (by omega)]
      by_cases hd2 : h ≤ d
      · rw [if_pos hd2]; exact congrArg nI (by omega)
      · rw [if_neg hd2]
    · unfold fd_z; rw [if_neg (by omega), if_pos (by omega)]
theorem fd_fb (J : rl_J (nI w0) (nI h0) f_root (nI f) f_liveCount a_parent a_first a_second a_orientation a_share a_leastWidth a_leastHeight a_rectX a_rectY a_rectW a_rectH a_order a_live a_screenWidth a_screenHeight a_cursorRow a_cursorCol a_regionTop a_regionBottom a_parserMode a_paramOne a_paramTwo a_paramIndex a_cells (nI c) (nI w0) (nI h0) (nI f) f_resW f_resH a_kind a_val a_tk a_tv a_live a_wasLive a_rx a_ry a_rw a_rh a_oldW a_oldH a_cursorRow a_cursorCol a_regionTop a_regionBottom a_parserMode a_paramOne a_paramTwo a_paramIndex b_cells a_sx a_sy a_sw a_sh a_mw a_mh c nd en po w0 h0 f) (H : fd_P a_rectW a_rectH a_screenWidth a_screenHeight a_rw a_rh a_cursorRow a_cursorCol a_regionTop a_regionBottom a_parserMode a_paramOne a_paramTwo a_paramIndex a_cells b_cells g w h r q t b 2 a d kk) (hl : a_live g ≠ 0) (ev : v2 &&& 255 = nI v) (h64 : 64 ≤ v) (h126 : v ≤ 126) :
    wpX_runFinal (fun u' => wpY_feed (fun r' v' => r' = 1 ∧ i_Rel (k + 4) u' v') (nI c, nI w0, nI h0, nI f, f_resW, f_resH, a_kind, a_val, a_tk, a_tv, a_live, a_wasLive, a_rx, a_ry, a_rw, a_rh, a_oldW, a_oldH, a_cursorRow, a_cursorCol, a_regionTop, a_regionBottom, a_parserMode, a_paramOne, a_paramTwo, a_paramIndex, b_cells, a_sx, a_sy, a_sw, a_sh, a_mw, a_mh) (nI g) v2) (nI w0, nI h0, f_root, nI f, f_liveCount, a_parent, a_first, a_second, a_orientation, a_share, a_leastWidth, a_leastHeight, a_rectX, a_rectY, a_rectW, a_rectH, a_order, a_live, a_screenWidth, a_screenHeight, a_cursorRow, a_cursorCol, a_regionTop, a_regionBottom, upd a_parserMode g 0, a_paramOne, a_paramTwo, a_paramIndex, a_cells) (nI g) (nI v) := by
  obtain ⟨hg, x1, x2, s1, s2, y1, y2, w4, h4, e1, e2, e3, e4, e5, e6, e7, e8, e9, e10, e11, e12, e13, e14, e15, e16, cr⟩ := H
  have v8 := vi_8 hg
  have e := cg_8 hg
  have o0 : ∀ A : Nat → Int32, ce_O (g * 288) A A := fun _ _ _ => rfl
  obtain ⟨n1l, n1u⟩ := fd_n1 a e12
  obtain ⟨n2l, n2u⟩ := fd_n1 d e14
  have YF := fun (post : Int32 → SY → Prop) K => yw_feedF (post := post) (v := v) (b_live := a_live) (b_cells := b_cells) (a_mode := a_parserMode) (a_p1 := a_paramOne) (a_p2 := a_paramTwo) (f_count := nI c) (f_hostW := nI w0) (f_hostH := nI h0) (f_focus := nI f) (f_resW := f_resW) (f_resH := f_resH) (a_kind := a_kind) (a_val := a_val) (a_tk := a_tk) (a_tv := a_tv) (a_wasLive := a_wasLive) (a_rx := a_rx) (a_ry := a_ry) (a_rw := a_rw) (a_rh := a_rh) (a_oldW := a_oldW) (a_oldH := a_oldH) (a_row := a_cursorRow) (a_col := a_cursorCol) (a_top := a_regionTop) (a_bot := a_regionBottom) (a_k := a_paramIndex) (a_sx := a_sx) (a_sy := a_sy) (a_sw := a_sw) (a_sh := a_sh) (a_mw := a_mw) (a_mh := a_mh) hg hl ev e9 h64 h126 e11 e13 e12 e14 K
  refine ⟨v8, ?_⟩
  rw [e, e11, e13, e1, e3, s1, s2]
  refine xw_orOne e12 ⟨v8, xw_orOne e14 ⟨v8, nm_e ⟨v8, nm_e ⟨v8, nm_e ⟨v8, nm_e ?_⟩⟩⟩⟩⟩
  generalize hn1 : fd_n a = n1 at *
  generalize hn2 : fd_n d = n2 at *
  by_cases z65 : v = 65
  · subst z65
    exact br_t rfl (xw_larger ⟨v8, nm_r (e' := upd a_cursorRow g (nI (r - n1))) (by rw [la_mxs (by omega) (by omega)]) (YF _ ⟨v8, nm_r (e' := nI w) (by rw [e]; exact y1) ⟨v8, nm_r (e' := nI h) (by rw [e]; exact y2) (br_t rfl ⟨v8, yw_max2 _ ⟨v8, nm_r (e' := upd a_cursorRow g (nI (r - n1))) (by rw [e, e1, la_mxs (by omega) (by omega)]) ⟨rfl, fd_fin J hg x1 x2 w4 h4 (fun i hi => ⟨pk_un hi, rfl, rfl, rfl, pk_un hi, rfl, rfl, rfl⟩) (o0 _) (o0 _) ⟨r - n1, q, t, b, 0, a, d, kk, pk_us, by omega, e3, e4, e5, e6, e7, e8, pk_us, by omega, e11, e12, e13, e14, e15, e16⟩ cr⟩⟩⟩)⟩⟩)⟩)
  by_cases z66 : v = 66
  · subst z66
    exact (br_f (by decide) (br_t rfl (xw_smaller ⟨v8, nm_r (e' := upd a_cursorRow g (nI (if r + n1 ≤ h - 1 then r + n1 else h - 1))) (by rw [nI_add, la_mns (by omega) (by omega) (by omega)]) (YF _ ⟨v8, nm_r (e' := nI w) (by rw [e]; exact y1) ⟨v8, nm_r (e' := nI h) (by rw [e]; exact y2) (br_f (by decide) (br_t rfl ⟨v8, yw_min2 _ ⟨v8, nm_r (e' := upd a_cursorRow g (nI (if r + n1 ≤ h - 1 then r + n1 else h - 1))) (by rw [e, e1, nI_add, la_mns (by omega) (by omega) (by omega)]) ⟨rfl, fd_fin J hg x1 x2 w4 h4 (fun i hi => ⟨pk_un hi, rfl, rfl, rfl, pk_un hi, rfl, rfl, rfl⟩) (o0 _) (o0 _) ⟨(if r + n1 ≤ h - 1 then r + n1 else h - 1), q, t, b, 0, a, d, kk, pk_us, by split <;> omega, e3, e4, e5, e6, e7, e8, pk_us, by omega, e11, e12, e13, e14, e15, e16⟩ cr⟩⟩⟩))⟩⟩)⟩)))
  by_cases z67 : v = 67
  · subst z67
    exact (br_f (by decide) (br_f (by decide) (br_t rfl (xw_smaller ⟨v8, nm_r (e' := upd a_cursorCol g (nI (if q + n1 ≤ w - 1 then q + n1 else w - 1))) (by rw [nI_add, la_mns (by omega) (by omega) (by omega)]) (YF _ ⟨v8, nm_r (e' := nI w) (by rw [e]; exact y1) ⟨v8, nm_r (e' := nI h) (by rw [e]; exact y2) (br_f (by decide) (br_f (by decide) (br_t rfl ⟨v8, yw_min2 _ ⟨v8, nm_r (e' := upd a_cursorCol g (nI (if q + n1 ≤ w - 1 then q + n1 else w - 1))) (by rw [e, e3, nI_add, la_mns (by omega) (by omega) (by omega)]) ⟨rfl, fd_fin J hg x1 x2 w4 h4 (fun i hi => ⟨rfl, pk_un hi, rfl, rfl, pk_un hi, rfl, rfl, rfl⟩) (o0 _) (o0 _) ⟨r, (if q + n1 ≤ w - 1 then q + n1 else w - 1), t, b, 0, a, d, kk, e1, e2, pk_us, by split <;> omega, e5, e6, e7, e8, pk_us, by omega, e11, e12, e13, e14, e15, e16⟩ cr⟩⟩⟩)))⟩⟩)⟩))))
  by_cases z68 : v = 68
  · subst z68
    exact (br_f (by decide) (br_f (by decide) (br_f (by decide) (br_t rfl (xw_larger ⟨v8, nm_r (e' := upd a_cursorCol g (nI (q - n1))) (by rw [la_mxs (by omega) (by omega)]) (YF _ ⟨v8, nm_r (e' := nI w) (by rw [e]; exact y1) ⟨v8, nm_r (e' := nI h) (by rw [e]; exact y2) (br_f (by decide) (br_f (by decide) (br_f (by decide) (br_t rfl ⟨v8, yw_max2 _ ⟨v8, nm_r (e' := upd a_cursorCol g (nI (q - n1))) (by rw [e, e3, la_mxs (by omega) (by omega)]) ⟨rfl, fd_fin J hg x1 x2 w4 h4 (fun i hi => ⟨rfl, pk_un hi, rfl, rfl, pk_un hi, rfl, rfl, rfl⟩) (o0 _) (o0 _) ⟨r, q - n1, t, b, 0, a, d, kk, e1, e2, pk_us, by omega, e5, e6, e7, e8, pk_us, by omega, e11, e12, e13, e14, e15, e16⟩ cr⟩⟩⟩))))⟩⟩)⟩)))))
  by_cases z72 : v = 72
  · subst z72
    exact (br_f (by decide) (br_f (by decide) (br_f (by decide) (br_f (by decide) (br_t rfl (xw_smaller ⟨v8, nm_r (e' := upd a_cursorRow g (nI (if n1 - 1 ≤ h - 1 then n1 - 1 else h - 1))) (by rw [la_sub1 n1l, la_mns (by omega) (by omega) (by omega)]) (xw_smaller ⟨v8, nm_r (e' := upd a_cursorCol g (nI (if n2 - 1 ≤ w - 1 then n2 - 1 else w - 1))) (by rw [la_sub1 n2l, la_mns (by omega) (by omega) (by omega)]) (YF _ ⟨v8, nm_r (e' := nI w) (by rw [e]; exact y1) ⟨v8, nm_r (e' := nI h) (by rw [e]; exact y2) (br_f (by decide) (br_f (by decide) (br_f (by decide) (br_f (by decide) (br_t rfl (yw_min2 _ ⟨v8, nm_r (e' := upd a_cursorRow g (nI (if n1 - 1 ≤ h - 1 then n1 - 1 else h - 1))) (by rw [e, la_sub1 n1l, la_mns (by omega) (by omega) (by omega)]) (yw_min2 _ ⟨v8, nm_r (e' := upd a_cursorCol g (nI (if n2 - 1 ≤ w - 1 then n2 - 1 else w - 1))) (by rw [e, la_sub1 n2l, la_mns (by omega) (by omega) (by omega)]) ⟨rfl, fd_fin J hg x1 x2 w4 h4 (fun i hi => ⟨pk_un hi, pk_un hi, rfl, rfl, pk_un hi, rfl, rfl, rfl⟩) (o0 _) (o0 _) ⟨(if n1 - 1 ≤ h - 1 then n1 - 1 else h - 1), (if n2 - 1 ≤ w - 1 then n2 - 1 else w - 1), t, b, 0, a, d, kk, pk_us, by split <;> omega, pk_us, by split <;> omega, e5, e6, e7, e8, pk_us, by omega, e11, e12, e13, e14, e15, e16⟩ cr⟩⟩)⟩))))))⟩⟩)⟩)⟩))))))
  by_cases z74 : v = 74
  · subst z74
    have ce : ce_R (g * 288) w h (ce_w (ce_q (g * 288) 0 0 h w) a_cells) (ce_w (fun j => g * 288 ≤ j ∧ j < g * 288 + 288) b_cells) := ce_Rw2 cr (fun j b1 b2 => ⟨fun z => by have z1 := z.1; unfold ce_q at z1; omega, fun _ => ⟨b1, b2⟩, fun z => Or.inr z⟩)
    have ox : ce_O (g * 288) a_cells (ce_w (ce_q (g * 288) 0 0 h w) a_cells) := ce_Ow (fun j z => by unfold ce_q at z; omega)
    have oy : ce_O (g * 288) b_cells (ce_w (fun j => g * 288 ≤ j ∧ j < g * 288 + 288) b_cells) := ce_Ow (fun j z => z)
    exact (br_f (by decide) (br_f (by decide) (br_f (by decide) (br_f (by decide) (br_f (by decide) (br_t rfl (xw_blank (r0 := 0) (c0 := 0) (r1 := h) (c1 := w) hg (by omega) h4 w4 (by omega) (YF _ ⟨v8, nm_r (e' := nI w) (by rw [e]; exact y1) ⟨v8, nm_r (e' := nI h) (by rw [e]; exact y2) (br_f (by decide) (br_f (by decide) (br_f (by decide) (br_f (by decide) (br_f (by decide) (br_t rfl (yw_clear hg ⟨rfl, fd_fin J hg x1 x2 w4 h4 (fun i hi => ⟨rfl, rfl, rfl, rfl, pk_un hi, rfl, rfl, rfl⟩) ox oy ⟨r, q, t, b, 0, a, d, kk, e1, e2, e3, e4, e5, e6, e7, e8, pk_us, by omega, e11, e12, e13, e14, e15, e16⟩ ce⟩)))))))⟩⟩))))))))
  by_cases z75 : v = 75
  · subst z75
    have ox : ∀ A : Nat → Int32, ce_O (g * 288) A (ce_w (ce_q (g * 288) r q (r + 1) w) A) := fun A => ce_Ow (fun j z => by unfold ce_q at z; omega)
    refine (br_f (by decide) (br_f (by decide) (br_f (by decide) (br_f (by decide) (br_f (by decide) (br_f (by decide) (br_t rfl ?_)))))))
    rw [nI_1 r]
    exact xw_blank (r0 := r) (c0 := q) (r1 := r + 1) (c1 := w) hg (by omega) (by omega) w4 (by omega) (YF _ ⟨v8, nm_r (e' := nI w) (by rw [e]; exact y1) ⟨v8, nm_r (e' := nI h) (by rw [e]; exact y2) (br_f (by decide) (br_f (by decide) (br_f (by decide) (br_f (by decide) (br_f (by decide) (br_f (by decide) (br_t rfl ⟨v8, nm_r (e' := nI q) (by rw [e]; exact e3) (yw_clrow hg e1 (by omega) (by omega) w4 ⟨rfl, fd_fin J hg x1 x2 w4 h4 (fun i hi => ⟨rfl, rfl, rfl, rfl, pk_un hi, rfl, rfl, rfl⟩) (ox _) (ox _) ⟨r, q, t, b, 0, a, d, kk, e1, e2, e3, e4, e5, e6, e7, e8, pk_us, by omega, e11, e12, e13, e14, e15, e16⟩ (ce_Rw cr)⟩)⟩)))))))⟩⟩)
  by_cases z83 : v = 83
  · subst z83
    exact (br_f (by decide) (br_f (by decide) (br_f (by decide) (br_f (by decide) (br_f (by decide) (br_f (by decide) (br_f (by decide) (br_t rfl (xw_scroll (m := n1) hg e5 e6 e7 (by omega) (by omega) (ce_Hx cr) (YF _ ⟨v8, nm_r (e' := nI w) (by rw [e]; exact y1) ⟨v8, nm_r (e' := nI h) (by rw [e]; exact y2) (br_f (by decide) (br_f (by decide) (br_f (by decide) (br_f (by decide) (br_f (by decide) (br_f (by decide) (br_f (by decide) (br_t rfl (yw_many (m := n1) hg e5 e6 e7 (by omega) (by omega) (ce_Hy cr) ⟨rfl, fd_fin J hg x1 x2 w4 h4 (fun i hi => ⟨rfl, rfl, rfl, rfl, pk_un hi, rfl, rfl, rfl⟩) (ce_On (by omega) n1) (ce_On (by omega) n1) ⟨r, q, t, b, 0, a, d, kk, e1, e2, e3, e4, e5, e6, e7, e8, pk_us, by omega, e11, e12, e13, e14, e15, e16⟩ (ce_Rn (by omega) e8 n1 cr)⟩)))))))))⟩⟩))))))))))
  by_cases z114 : v = 114
  · subst z114
    have zb : fd_z d h ≤ h ∧ 1 ≤ fd_z d h := by unfold fd_z; (repeat' split) <;> omega
    refine (br_f (by decide) (br_f (by decide) (br_f (by decide) (br_f (by decide) (br_f (by decide) (br_f (by decide) (br_f (by decide) (br_f (by decide) (br_t rfl (xw_reg hg s2 e13 e14 (by omega) h4 n1l n1u (fun z => ?_) (fun z => ?_)))))))))))
    · exact (YF _ ⟨v8, nm_r (e' := nI w) (by rw [e]; exact y1) ⟨v8, nm_r (e' := nI h) (by rw [e]; exact y2) (br_f (by decide) (br_f (by decide) (br_f (by decide) (br_f (by decide) (br_f (by decide) (br_f (by decide) (br_f (by decide) (br_f (by decide) (br_t rfl ⟨v8, yw_reg hg e13 e14 (by omega) h4 n1l n1u (fun _ => ⟨rfl, fd_fin J hg x1 x2 w4 h4 (fun i hi => ⟨rfl, rfl, rfl, rfl, pk_un hi, rfl, rfl, rfl⟩) (o0 _) (o0 _) ⟨r, q, t, b, 0, a, d, kk, e1, e2, e3, e4, e5, e6, e7, e8, pk_us, by omega, e11, e12, e13, e14, e15, e16⟩ cr⟩) (fun y => by omega)⟩)))))))))⟩⟩)
    · exact (YF _ ⟨v8, nm_r (e' := nI w) (by rw [e]; exact y1) ⟨v8, nm_r (e' := nI h) (by rw [e]; exact y2) (br_f (by decide) (br_f (by decide) (br_f (by decide) (br_f (by decide) (br_f (by decide) (br_f (by decide) (br_f (by decide) (br_f (by decide) (br_t rfl ⟨v8, yw_reg hg e13 e14 (by omega) h4 n1l n1u (fun y => by omega) (fun _ => ⟨rfl, fd_fin J hg x1 x2 w4 h4 (fun i hi => ⟨pk_un hi, pk_un hi, pk_un hi, pk_un hi, pk_un hi, rfl, rfl, rfl⟩) (o0 _) (o0 _) ⟨0, 0, n1 - 1, fd_z d h - 1, 0, a, d, kk, pk_us, by omega, pk_us, by omega, pk_us, pk_us, by omega, by omega, pk_us, by omega, e11, e12, e13, e14, e15, e16⟩ cr⟩)⟩)))))))))⟩⟩)
  have y65 : ¬ nI v = 65 := fun y => z65 ((nI_eq (b := 65) (by omega) (by omega)).mp y)
  have y66 : ¬ nI v = 66 := fun y => z66 ((nI_eq (b := 66) (by omega) (by omega)).mp y)
  have y67 : ¬ nI v = 67 := fun y => z67 ((nI_eq (b := 67) (by omega) (by omega)).mp y)
  have y68 : ¬ nI v = 68 := fun y => z68 ((nI_eq (b := 68) (by omega) (by omega)).mp y)
  have y72 : ¬ nI v = 72 := fun y => z72 ((nI_eq (b := 72) (by omega) (by omega)).mp y)
  have y74 : ¬ nI v = 74 := fun y => z74 ((nI_eq (b := 74) (by omega) (by omega)).mp y)
  have y75 : ¬ nI v = 75 := fun y => z75 ((nI_eq (b := 75) (by omega) (by omega)).mp y)
  have y83 : ¬ nI v = 83 := fun y => z83 ((nI_eq (b := 83) (by omega) (by omega)).mp y)
  have y114 : ¬ nI v = 114 := fun y => z114 ((nI_eq (b := 114) (by omega) (by omega)).mp y)
  exact (br_f y65 (br_f y66 (br_f y67 (br_f y68 (br_f y72 (br_f y74 (br_f y75 (br_f y83 (br_f y114 (YF _ ⟨v8, nm_r (e' := nI w) (by rw [e]; exact y1) ⟨v8, nm_r (e' := nI h) (by rw [e]; exact y2) (br_f y65 (br_f y66 (br_f y67 (br_f y68 (br_f y72 (br_f y74 (br_f y75 (br_f y83 (br_f y114 ⟨rfl, fd_fin J hg x1 x2 w4 h4 (fun i hi => ⟨rfl, rfl, rfl, rfl, pk_un hi, rfl, rfl, rfl⟩) (o0 _) (o0 _) ⟨r, q, t, b, 0, a, d, kk, e1, e2, e3, e4, e5, e6, e7, e8, pk_us, by omega, e11, e12, e13, e14, e15, e16⟩ cr⟩)))))))))⟩⟩))))))))))
theorem fd_2 (J : rl_J (nI w0) (nI h0) f_root (nI f) f_liveCount a_parent a_first a_second a_orientation a_share a_leastWidth a_leastHeight a_rectX a_rectY a_rectW a_rectH a_order a_live a_screenWidth a_screenHeight a_cursorRow a_cursorCol a_regionTop a_regionBottom a_parserMode a_paramOne a_paramTwo a_paramIndex a_cells (nI c) (nI w0) (nI h0) (nI f) f_resW f_resH a_kind a_val a_tk a_tv a_live a_wasLive a_rx a_ry a_rw a_rh a_oldW a_oldH a_cursorRow a_cursorCol a_regionTop a_regionBottom a_parserMode a_paramOne a_paramTwo a_paramIndex b_cells a_sx a_sy a_sw a_sh a_mw a_mh c nd en po w0 h0 f) (H : fd_P a_rectW a_rectH a_screenWidth a_screenHeight a_rw a_rh a_cursorRow a_cursorCol a_regionTop a_regionBottom a_parserMode a_paramOne a_paramTwo a_paramIndex a_cells b_cells g w h r q t b 2 a d kk) (hl : a_live g ≠ 0) (ev : v2 &&& 255 = nI v) (hv : v < 256) :
    wpX_feedSequence (fun u' => wpY_feed (fun r' v' => r' = 1 ∧ i_Rel (k + 4) u' v') (nI c, nI w0, nI h0, nI f, f_resW, f_resH, a_kind, a_val, a_tk, a_tv, a_live, a_wasLive, a_rx, a_ry, a_rw, a_rh, a_oldW, a_oldH, a_cursorRow, a_cursorCol, a_regionTop, a_regionBottom, a_parserMode, a_paramOne, a_paramTwo, a_paramIndex, b_cells, a_sx, a_sy, a_sw, a_sh, a_mw, a_mh) (nI g) v2) (nI w0, nI h0, f_root, nI f, f_liveCount, a_parent, a_first, a_second, a_orientation, a_share, a_leastWidth, a_leastHeight, a_rectX, a_rectY, a_rectW, a_rectH, a_order, a_live, a_screenWidth, a_screenHeight, a_cursorRow, a_cursorCol, a_regionTop, a_regionBottom, a_parserMode, a_paramOne, a_paramTwo, a_paramIndex, a_cells) (nI g) (nI v) := by
  have H0 := H
  obtain ⟨hg, x1, x2, s1, s2, y1, y2, w4, h4, e1, e2, e3, e4, e5, e6, e7, e8, e9, e10, e11, e12, e13, e14, e15, e16, cr⟩ := H
  have v8 := vi_8 hg
  have e := cg_8 hg
  have o0 : ∀ A : Nat → Int32, ce_O (g * 288) A A := fun _ _ _ => rfl
  have m99 : ∀ x, x < 2000 → la_mn 99 (nI x) = nI (if x ≤ 99 then x else 99) := fun x hx => la_mnN (a := 99) (by omega) (by omega)
  by_cases hd : 48 ≤ v ∧ v ≤ 57
  · obtain ⟨d1, d2⟩ := hd
    have e48 : nI v - 48 = nI (v - 48) := pk_sub (b := 48) d1
    refine br_f (nI_nlt (b := 48) d1 (by omega)) (br_f (nI_nlt (a := 57) d2 (by omega)) ⟨v8, ?_⟩)
    rw [e, e15, e11, e13, e48, show (10 : Int32) = nI 10 from rfl, pk_mul, pk_mul, nI_add, nI_add]
    refine pk_eq kk 0 (fun z => ⟨v8, xw_smaller ⟨v8, nm_e ?_⟩⟩) (fun z => ⟨v8, pk_eq kk 1 (fun z1 => ⟨v8, xw_smaller ⟨v8, nm_e ?_⟩⟩) (fun z1 => ?_)⟩)
    · refine yw_feedD hg hl ev e9 d1 d2 e11 e13 e12 e14 e15 e16 (fun _ => ⟨rfl, fd_fin J hg x1 x2 w4 h4 (fun i hi => ⟨rfl, rfl, rfl, rfl, rfl, pk_un hi, rfl, rfl⟩) (o0 _) (o0 _) ⟨r, q, t, b, 2, _, d, kk, e1, e2, e3, e4, e5, e6, e7, e8, e9, e10, pk_us.trans (m99 _ (by omega)), ?_, e13, e14, e15, e16⟩ cr⟩) (fun y => by omega) (fun y => by omega)
      split <;> omega
    · refine yw_feedD hg hl ev e9 d1 d2 e11 e13 e12 e14 e15 e16 (fun y => by omega) (fun _ => ⟨rfl, fd_fin J hg x1 x2 w4 h4 (fun i hi => ⟨rfl, rfl, rfl, rfl, rfl, rfl, pk_un hi, rfl⟩) (o0 _) (o0 _) ⟨r, q, t, b, 2, a, _, kk, e1, e2, e3, e4, e5, e6, e7, e8, e9, e10, e11, e12, pk_us.trans (m99 _ (by omega)), ?_, e15, e16⟩ cr⟩) (fun y => by omega)
      split <;> omega
    · exact yw_feedD hg hl ev e9 d1 d2 e11 e13 e12 e14 e15 e16 (fun y => by omega) (fun y => by omega) (fun _ => ⟨rfl, fd_fin J hg x1 x2 w4 h4 (fun i hi => ⟨rfl, rfl, rfl, rfl, rfl, rfl, rfl, rfl⟩) (o0 _) (o0 _) ⟨r, q, t, b, 2, a, d, kk, e1, e2, e3, e4, e5, e6, e7, e8, e9, e10, e11, e12, e13, e14, e15, e16⟩ cr⟩)
  have hc : v < 48 ∨ 57 < v := by omega
  have B : wX_feedSequence_24 (fun u' => wpY_feed (fun r' v' => r' = 1 ∧ i_Rel (k + 4) u' v') (nI c, nI w0, nI h0, nI f, f_resW, f_resH, a_kind, a_val, a_tk, a_tv, a_live, a_wasLive, a_rx, a_ry, a_rw, a_rh, a_oldW, a_oldH, a_cursorRow, a_cursorCol, a_regionTop, a_regionBottom, a_parserMode, a_paramOne, a_paramTwo, a_paramIndex, b_cells, a_sx, a_sy, a_sw, a_sh, a_mw, a_mh) (nI g) v2) (nI g) (nI v) (nI w0) (nI h0) f_root (nI f) f_liveCount a_parent a_first a_second a_orientation a_share a_leastWidth a_leastHeight a_rectX a_rectY a_rectW a_rectH a_order a_live a_screenWidth a_screenHeight a_cursorRow a_cursorCol a_regionTop a_regionBottom a_parserMode a_paramOne a_paramTwo a_paramIndex a_cells := by
    refine pk_eq v 59 (fun z => ⟨v8, xw_smaller ⟨v8, ?_⟩⟩) (fun z => ⟨v8, nm_r (e' := upd a_parserMode g 0) (by rw [e]) ?_⟩)
    · rw [e, e15]
      by_cases k2 : 2 ≤ kk
      · have k22 : kk = 2 := by omega
        subst k22
        have u : upd a_paramIndex g (la_mn 2 (nI 2 + 1)) = a_paramIndex := by
          rw [show la_mn 2 (nI 2 + 1) = nI 2 from by decide, ← e15, pk_uu]
        refine nm_r u (yw_feedO hg hl ev hv e9 hc (br_t (by rw [z]; rfl) ⟨v8, br_t (by rw [e, e15]; decide) ⟨rfl, fd_fin J hg x1 x2 w4 h4 (fun i hi => ⟨rfl, rfl, rfl, rfl, rfl, rfl, rfl, rfl⟩) (o0 _) (o0 _) ⟨r, q, t, b, 2, a, d, 2, e1, e2, e3, e4, e5, e6, e7, e8, e9, e10, e11, e12, e13, e14, e15, e16⟩ cr⟩⟩))
      · have u : upd a_paramIndex g (la_mn 2 (nI kk + 1)) = upd a_paramIndex g (nI (kk + 1)) := by
          have e0 : la_mn 2 (nI (kk + 1)) = nI (kk + 1) := by
            have := la_mnN (a := 2) (b := kk + 1) (by omega) (by omega)
            rw [if_pos (by omega)] at this
            exact this
          rw [nI_1, e0]
        refine nm_r u (yw_feedO hg hl ev hv e9 hc (br_t (by rw [z]; rfl) ⟨v8, br_f (by rw [e, e15]; exact nI_ge (b := 2) (by omega) (by omega)) ⟨v8, v8, nm_r (e' := upd a_paramIndex g (nI (kk + 1))) (by rw [e, e15, nI_1]) ⟨rfl, fd_fin J hg x1 x2 w4 h4 (fun i hi => ⟨rfl, rfl, rfl, rfl, rfl, rfl, rfl, pk_un hi⟩) (o0 _) (o0 _) ⟨r, q, t, b, 2, a, d, kk + 1, e1, e2, e3, e4, e5, e6, e7, e8, e9, e10, e11, e12, e13, e14, pk_us, by omega⟩ cr⟩⟩⟩))
    · have n59 : ¬ nI v = 59 := fun y => z ((nI_eq (b := 59) (by omega) (by omega)).mp y)
      by_cases h64 : v < 64
      · have y := nI_lt (b := 64) h64 (by omega)
        exact br_t y (yw_feedO hg hl ev hv e9 hc (br_f n59 (br_t y ⟨v8, nm_r (e' := upd a_parserMode g 0) (by rw [e]) ⟨rfl, fd_fin J hg x1 x2 w4 h4 (fun i hi => ⟨rfl, rfl, rfl, rfl, pk_un hi, rfl, rfl, rfl⟩) (o0 _) (o0 _) ⟨r, q, t, b, 0, a, d, kk, e1, e2, e3, e4, e5, e6, e7, e8, pk_us, by omega, e11, e12, e13, e14, e15, e16⟩ cr⟩⟩)))
      · have y := nI_nlt (b := 64) (a := v) (by omega) (by omega)
        by_cases h126 : 126 < v
        · have x := nI_lt (a := 126) h126 (by omega)
          exact br_f y (br_t x (yw_feedO hg hl ev hv e9 hc (br_f n59 (br_f y (br_t x ⟨v8, nm_r (e' := upd a_parserMode g 0) (by rw [e]) ⟨rfl, fd_fin J hg x1 x2 w4 h4 (fun i hi => ⟨rfl, rfl, rfl, rfl, pk_un hi, rfl, rfl, rfl⟩) (o0 _) (o0 _) ⟨r, q, t, b, 0, a, d, kk, e1, e2, e3, e4, e5, e6, e7, e8, pk_us, by omega, e11, e12, e13, e14, e15, e16⟩ cr⟩⟩)))))
        · exact br_f y (br_f (nI_nlt (a := 126) (by omega) (by omega)) (fd_fb J H0 hl ev (by omega) (by omega)))
  by_cases z : v < 48
  · exact br_t (nI_lt (b := 48) z (by omega)) B
  · exact br_f (nI_nlt (b := 48) (by omega) (by omega)) (br_t (nI_lt (a := 57) (by omega) (by omega)) B)
end FF
theorem i_vc_feed {k : Nat} {u : SX} {v : SY} (I : i_Rel k u v) (hk : k + 4 ≤ 2050) (v1 : Int32) (v2 : Int32) : wpX_feed (fun r u' => wpY_feed (fun r' v' => r' = r ∧ i_Rel (k + 4) u' v') v v1 v2) u v1 v2 := by
  obtain ⟨f_hostWidth, f_hostHeight, f_root, f_focusedPane, f_liveCount, a_parent, a_first, a_second, a_orientation, a_share, a_leastWidth, a_leastHeight, a_rectX, a_rectY, a_rectW, a_rectH, a_order, a_live, a_screenWidth, a_screenHeight, a_cursorRow, a_cursorCol, a_regionTop, a_regionBottom, a_parserMode, a_paramOne, a_paramTwo, a_paramIndex, a_cells⟩ := u
  obtain ⟨f_count, f_hostW, f_hostH, f_focus, f_resW, f_resH, a_kind, a_val, a_tk, a_tv, b_live, a_wasLive, a_rx, a_ry, a_rw, a_rh, a_oldW, a_oldH, a_row, a_col, a_top, a_bot, a_mode, a_p1, a_p2, a_k, b_cells, a_sx, a_sy, a_sw, a_sh, a_mw, a_mh⟩ := v
  obtain ⟨c, nd, en, po, w0, h0, f, J⟩ := I
  have J0 := J
  obtain ⟨rfl, rfl, rfl, rfl, rfl, j6, rfl, rfl, j9, j10, rfl, rfl, rfl, rfl, rfl, rfl, rfl, rfl, rfl, G, Pn⟩ := J
  rcases pd_or a_live v1 with D | ⟨g, hg, e, hl⟩
  · unfold wpX_feed wpY_feed
    exact xw_dead D (br_t rfl (yw_dead D (br_t rfl ⟨rfl, c, nd, en, po, w0, h0, f, J0⟩)))
  · subst e
    obtain ⟨a1, a2, a3, a4, a5, a6, w, h, b1, b2, b3, b4, b5, b6, qq, cr⟩ := Pn g hg hl
    obtain ⟨r, q, t, b, m, a, d, kk, e1, e2, e3, e4, e5, e6, e7, e8, e9, e10, e11, e12, e13, e14, e15, e16⟩ := qq
    obtain ⟨v, hv, ev⟩ := pk_andE v2 (m := 255) 8 (by decide)
    refine xw_feed hg hl ev e9 e10 (fun z => ?_) (fun z => ?_) (fun z => ?_)
    · subst z
      exact fd_0 J0 ⟨hg, b1, b2, a5.trans b1, a6.trans b2, a3.trans b1, a4.trans b2, b4, b6, e1, e2, e3, e4, e5, e6, e7, e8, e9, e10, e11, e12, e13, e14, e15, e16, cr⟩ hl ev hv
    · subst z
      exact fd_1 J0 ⟨hg, b1, b2, a5.trans b1, a6.trans b2, a3.trans b1, a4.trans b2, b4, b6, e1, e2, e3, e4, e5, e6, e7, e8, e9, e10, e11, e12, e13, e14, e15, e16, cr⟩ hl ev hv
    · subst z
      exact fd_2 J0 ⟨hg, b1, b2, a5.trans b1, a6.trans b2, a3.trans b1, a4.trans b2, b4, b6, e1, e2, e3, e4, e5, e6, e7, e8, e9, e10, e11, e12, e13, e14, e15, e16, cr⟩ hl ev hv
