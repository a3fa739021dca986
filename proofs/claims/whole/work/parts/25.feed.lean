section FD
variable {f_hostWidth f_hostHeight f_root f_focusedPane f_liveCount : Int32} {a_parent a_first a_second a_orientation a_share a_leastWidth a_leastHeight a_rectX a_rectY a_rectW a_rectH a_order a_live a_screenWidth a_screenHeight a_cursorRow a_cursorCol a_regionTop a_regionBottom a_parserMode a_paramOne a_paramTwo a_paramIndex a_cells : Nat → Int32} {f_count f_hostW f_hostH f_focus f_resW f_resH : Int32} {a_kind a_val a_tk a_tv b_live a_wasLive a_rx a_ry a_rw a_rh a_oldW a_oldH a_row a_col a_top a_bot a_mode a_p1 a_p2 a_k b_cells a_sx a_sy a_sw a_sh a_mw a_mh : Nat → Int32}
theorem xw_feed {post : Int32 → SX → Prop} {g v m : Nat} {p1 : Int32} (hg : g < 8) (hl : a_live g ≠ 0) (e : p1 &&& 255 = nI v) (hM : a_parserMode g = nI m) (hm : m ≤ 2) (k0 : m = 0 → wpX_feedGround (fun u => post 1 u) (f_hostWidth, f_hostHeight, f_root, f_focusedPane, f_liveCount, a_parent, a_first, a_second, a_orientation, a_share, a_leastWidth, a_leastHeight, a_rectX, a_rectY, a_rectW, a_rectH, a_order, a_live, a_screenWidth, a_screenHeight, a_cursorRow, a_cursorCol, a_regionTop, a_regionBottom, a_parserMode, a_paramOne, a_paramTwo, a_paramIndex, a_cells) (nI g) (nI v)) (k1 : m = 1 → wpX_feedEscape (fun u => post 1 u) (f_hostWidth, f_hostHeight, f_root, f_focusedPane, f_liveCount, a_parent, a_first, a_second, a_orientation, a_share, a_leastWidth, a_leastHeight, a_rectX, a_rectY, a_rectW, a_rectH, a_order, a_live, a_screenWidth, a_screenHeight, a_cursorRow, a_cursorCol, a_regionTop, a_regionBottom, a_parserMode, a_paramOne, a_paramTwo, a_paramIndex, a_cells) (nI g) (nI v)) (k2 : m = 2 → wpX_feedSequence (fun u => post 1 u) (f_hostWidth, f_hostHeight, f_root, f_focusedPane, f_liveCount, a_parent, a_first, a_second, a_orientation, a_share, a_leastWidth, a_leastHeight, a_rectX, a_rectY, a_rectW, a_rectH, a_order, a_live, a_screenWidth, a_screenHeight, a_cursorRow, a_cursorCol, a_regionTop, a_regionBottom, a_parserMode, a_paramOne, a_paramTwo, a_paramIndex, a_cells) (nI g) (nI v)) : wpX_feed post (f_hostWidth, f_hostHeight, f_root, f_focusedPane, f_liveCount, a_parent, a_first, a_second, a_orientation, a_share, a_leastWidth, a_leastHeight, a_rectX, a_rectY, a_rectW, a_rectH, a_order, a_live, a_screenWidth, a_screenHeight, a_cursorRow, a_cursorCol, a_regionTop, a_regionBottom, a_parserMode, a_paramOne, a_paramTwo, a_paramIndex, a_cells) (nI g) p1 := by
  unfold wpX_feed
  refine xw_live hg hl (br_f (by decide) (nm_r e ⟨vi_8 hg, ?_⟩))
  rw [cg_8 hg, hM]
  refine pk_eq m 0 (fun z => k0 z) (fun z => ⟨vi_8 hg, ?_⟩)
  exact pk_eq m 1 (fun y => k1 y) (fun y => k2 (by omega))
theorem yw_feedP {post : Int32 → SY → Prop} {g t b r q h w v : Nat} {p1 : Int32} (hg : g < 8) (hl : b_live g ≠ 0) (e : p1 &&& 255 = nI v) (hM : a_mode g = 0) (hv1 : 32 ≤ v) (hv2 : v ≤ 126)
    (hT : a_top g = nI t) (hB : a_bot g = nI b) (htb : t ≤ b) (hb : b < 12) (hR : a_row g = nI r) (hr : r < h) (hh : h ≤ 12) (hS : a_rh g = nI h) (hC : a_col g = nI q) (hq : q < w) (hw : w ≤ 24) (hW : a_rw g = nI w)
    (H : ce_H (g * 288) (upd b_cells (g * 288 + r * 24 + q) (nI v)))
    (k0 : q + 1 ≠ w → post 1 (f_count, f_hostW, f_hostH, f_focus, f_resW, f_resH, a_kind, a_val, a_tk, a_tv, b_live, a_wasLive, a_rx, a_ry, a_rw, a_rh, a_oldW, a_oldH, a_row, upd a_col g (nI (q + 1)), a_top, a_bot, a_mode, a_p1, a_p2, a_k, upd b_cells (g * 288 + r * 24 + q) (nI v), a_sx, a_sy, a_sw, a_sh, a_mw, a_mh))
    (k1 : q + 1 = w → r = b → post 1 (f_count, f_hostW, f_hostH, f_focus, f_resW, f_resH, a_kind, a_val, a_tk, a_tv, b_live, a_wasLive, a_rx, a_ry, a_rw, a_rh, a_oldW, a_oldH, a_row, upd (upd a_col g (nI (q + 1))) g 0, a_top, a_bot, a_mode, a_p1, a_p2, a_k, ce_n (g * 288 + t * 24) (g * 288 + b * 24) 1 (upd b_cells (g * 288 + r * 24 + q) (nI v)), a_sx, a_sy, a_sw, a_sh, a_mw, a_mh))
    (k2 : q + 1 = w → r ≠ b → h - 1 ≤ r → post 1 (f_count, f_hostW, f_hostH, f_focus, f_resW, f_resH, a_kind, a_val, a_tk, a_tv, b_live, a_wasLive, a_rx, a_ry, a_rw, a_rh, a_oldW, a_oldH, a_row, upd (upd a_col g (nI (q + 1))) g 0, a_top, a_bot, a_mode, a_p1, a_p2, a_k, upd b_cells (g * 288 + r * 24 + q) (nI v), a_sx, a_sy, a_sw, a_sh, a_mw, a_mh))
    (k3 : q + 1 = w → r ≠ b → r < h - 1 → post 1 (f_count, f_hostW, f_hostH, f_focus, f_resW, f_resH, a_kind, a_val, a_tk, a_tv, b_live, a_wasLive, a_rx, a_ry, a_rw, a_rh, a_oldW, a_oldH, upd a_row g (nI (r + 1)), upd (upd a_col g (nI (q + 1))) g 0, a_top, a_bot, a_mode, a_p1, a_p2, a_k, upd b_cells (g * 288 + r * 24 + q) (nI v), a_sx, a_sy, a_sw, a_sh, a_mw, a_mh)) : wpY_feed post (f_count, f_hostW, f_hostH, f_focus, f_resW, f_resH, a_kind, a_val, a_tk, a_tv, b_live, a_wasLive, a_rx, a_ry, a_rw, a_rh, a_oldW, a_oldH, a_row, a_col, a_top, a_bot, a_mode, a_p1, a_p2, a_k, b_cells, a_sx, a_sy, a_sw, a_sh, a_mw, a_mh) (nI g) p1 := by
  have ev : vp_nar .char ((nI v).toUInt32 % 65536).toInt32 = nI v := by
    rw [pk_char, pk_tn (by omega), nr_c (Nat.mod_lt _ (by decide)), Nat.mod_eq_of_lt (by omega)]
  unfold wpY_feed
  refine yw_live hg hl (br_f (by decide) (nm_r e ⟨vi_8 hg, br_t (by rw [cg_8 hg]; exact hM) (br_f (nI_nlt (b := 32) hv1 (by omega)) (br_f (nI_nlt (a := 126) hv2 (by omega)) ⟨vi_8 hg, vi_8 hg, ?_⟩))⟩))
  rw [cg_8 hg, hR, hC, ev, xc_i]
  refine ⟨vp_in_nI (by omega) (by omega), nm_r (e' := upd b_cells (g * 288 + r * 24 + q) (nI v)) (by rw [nI_clamp (by omega)]) ⟨vi_8 hg, vi_8 hg, nm_r (e' := upd a_col g (nI (q + 1))) (by rw [nI_1]) ⟨vi_8 hg, vi_8 hg, ?_⟩⟩⟩
  rw [pk_us, hW]
  refine pk_eq (q + 1) w (fun z => ⟨vi_8 hg, nm_e ?_⟩) (fun z => k0 z)
  exact yw_lineFeed (h := h) hg hT hB htb hb hR hr hh hS H (k1 z) (k2 z) (k3 z)
theorem yw_feedC {post : Int32 → SY → Prop} {g v : Nat} {p1 : Int32} (hg : g < 8) (hl : b_live g ≠ 0) (e : p1 &&& 255 = nI v) (hv : v < 256) (hM : a_mode g = 0) (hc : v < 32 ∨ 126 < v) (K : wY_feed_110 post (nI g) (nI v) f_count f_hostW f_hostH f_focus f_resW f_resH a_kind a_val a_tk a_tv b_live a_wasLive a_rx a_ry a_rw a_rh a_oldW a_oldH a_row a_col a_top a_bot a_mode a_p1 a_p2 a_k b_cells a_sx a_sy a_sw a_sh a_mw a_mh) : wpY_feed post (f_count, f_hostW, f_hostH, f_focus, f_resW, f_resH, a_kind, a_val, a_tk, a_tv, b_live, a_wasLive, a_rx, a_ry, a_rw, a_rh, a_oldW, a_oldH, a_row, a_col, a_top, a_bot, a_mode, a_p1, a_p2, a_k, b_cells, a_sx, a_sy, a_sw, a_sh, a_mw, a_mh) (nI g) p1 := by
  unfold wpY_feed
  refine yw_live hg hl (br_f (by decide) (nm_r e ⟨vi_8 hg, br_t (by rw [cg_8 hg]; exact hM) ?_⟩))
  by_cases z : v < 32
  · exact br_t (nI_lt (b := 32) z (by omega)) K
  · exact br_f (nI_nlt (b := 32) (by omega) (by omega)) (br_t (nI_lt (a := 126) (by omega) (by omega)) K)
theorem yw_feed1 {post : Int32 → SY → Prop} {g v : Nat} {p1 : Int32} (hg : g < 8) (hl : b_live g ≠ 0) (e : p1 &&& 255 = nI v) (hv : v < 256) (hM : a_mode g = 1) (k1 : v = 91 → post 1 (f_count, f_hostW, f_hostH, f_focus, f_resW, f_resH, a_kind, a_val, a_tk, a_tv, b_live, a_wasLive, a_rx, a_ry, a_rw, a_rh, a_oldW, a_oldH, a_row, a_col, a_top, a_bot, upd a_mode g 2, upd a_p1 g 0, upd a_p2 g 0, upd a_k g 0, b_cells, a_sx, a_sy, a_sw, a_sh, a_mw, a_mh)) (k2 : v ≠ 91 → post 1 (f_count, f_hostW, f_hostH, f_focus, f_resW, f_resH, a_kind, a_val, a_tk, a_tv, b_live, a_wasLive, a_rx, a_ry, a_rw, a_rh, a_oldW, a_oldH, a_row, a_col, a_top, a_bot, upd a_mode g 0, a_p1, a_p2, a_k, b_cells, a_sx, a_sy, a_sw, a_sh, a_mw, a_mh)) : wpY_feed post (f_count, f_hostW, f_hostH, f_focus, f_resW, f_resH, a_kind, a_val, a_tk, a_tv, b_live, a_wasLive, a_rx, a_ry, a_rw, a_rh, a_oldW, a_oldH, a_row, a_col, a_top, a_bot, a_mode, a_p1, a_p2, a_k, b_cells, a_sx, a_sy, a_sw, a_sh, a_mw, a_mh) (nI g) p1 := by
  unfold wpY_feed
  refine yw_live hg hl (br_f (by decide) (nm_r e ⟨vi_8 hg, ?_⟩))
  rw [cg_8 hg, hM]
  refine br_f (by decide) ⟨vi_8 hg, br_t rfl ?_⟩
  exact pk_eq v 91 (fun z => ⟨vi_8 hg, nm_e ⟨vi_8 hg, nm_e ⟨vi_8 hg, nm_e ⟨vi_8 hg, nm_e (k1 z)⟩⟩⟩⟩) (fun z => ⟨vi_8 hg, nm_e (k2 z)⟩)
theorem yw_feedD {post : Int32 → SY → Prop} {g v a d k : Nat} {p1 : Int32} (hg : g < 8) (hl : b_live g ≠ 0) (e : p1 &&& 255 = nI v) (hM : a_mode g = 2) (hv1 : 48 ≤ v) (hv2 : v ≤ 57) (hA : a_p1 g = nI a) (hD : a_p2 g = nI d) (ha : a ≤ 99) (hd : d ≤ 99) (hK : a_k g = nI k) (hk : k ≤ 2)
    (k0 : k = 0 → post 1 (f_count, f_hostW, f_hostH, f_focus, f_resW, f_resH, a_kind, a_val, a_tk, a_tv, b_live, a_wasLive, a_rx, a_ry, a_rw, a_rh, a_oldW, a_oldH, a_row, a_col, a_top, a_bot, a_mode, upd a_p1 g (la_mn 99 (nI (a * 10 + (v - 48)))), a_p2, a_k, b_cells, a_sx, a_sy, a_sw, a_sh, a_mw, a_mh)) (k1 : k = 1 → post 1 (f_count, f_hostW, f_hostH, f_focus, f_resW, f_resH, a_kind, a_val, a_tk, a_tv, b_live, a_wasLive, a_rx, a_ry, a_rw, a_rh, a_oldW, a_oldH, a_row, a_col, a_top, a_bot, a_mode, a_p1, upd a_p2 g (la_mn 99 (nI (d * 10 + (v - 48)))), a_k, b_cells, a_sx, a_sy, a_sw, a_sh, a_mw, a_mh)) (k2 : k = 2 → post 1 (f_count, f_hostW, f_hostH, f_focus, f_resW, f_resH, a_kind, a_val, a_tk, a_tv, b_live, a_wasLive, a_rx, a_ry, a_rw, a_rh, a_oldW, a_oldH, a_row, a_col, a_top, a_bot, a_mode, a_p1, a_p2, a_k, b_cells, a_sx, a_sy, a_sw, a_sh, a_mw, a_mh)) : wpY_feed post (f_count, f_hostW, f_hostH, f_focus, f_resW, f_resH, a_kind, a_val, a_tk, a_tv, b_live, a_wasLive, a_rx, a_ry, a_rw, a_rh, a_oldW, a_oldH, a_row, a_col, a_top, a_bot, a_mode, a_p1, a_p2, a_k, b_cells, a_sx, a_sy, a_sw, a_sh, a_mw, a_mh) (nI g) p1 := by
  have e48 : nI v - 48 = nI (v - 48) := pk_sub (b := 48) hv1
  unfold wpY_feed
  refine yw_live hg hl (br_f (by decide) (nm_r e ⟨vi_8 hg, ?_⟩))
  rw [cg_8 hg, hM]
  refine br_f (by decide) ⟨vi_8 hg, br_f (by decide) (br_f (nI_nlt (b := 48) hv1 (by omega)) (br_f (nI_nlt (a := 57) hv2 (by omega)) (nm_r e48 ⟨vi_8 hg, ?_⟩)))⟩
  rw [hK, hA, hD, show (10 : Int32) = nI 10 from rfl, pk_mul, pk_mul, nI_add, nI_add]
  refine pk_eq k 0 (fun z => ⟨vi_8 hg, yw_min2 _ ⟨vi_8 hg, nm_e (k0 z)⟩⟩) (fun z => ⟨vi_8 hg, ?_⟩)
  exact pk_eq k 1 (fun y => ⟨vi_8 hg, yw_min2 _ ⟨vi_8 hg, nm_e (k1 y)⟩⟩) (fun y => k2 (by omega))
theorem yw_feedO {post : Int32 → SY → Prop} {g v : Nat} {p1 : Int32} (hg : g < 8) (hl : b_live g ≠ 0) (e : p1 &&& 255 = nI v) (hv : v < 256) (hM : a_mode g = 2) (hc : v < 48 ∨ 57 < v) (K : wY_feed_336 post (nI g) (nI v) f_count f_hostW f_hostH f_focus f_resW f_resH a_kind a_val a_tk a_tv b_live a_wasLive a_rx a_ry a_rw a_rh a_oldW a_oldH a_row a_col a_top a_bot a_mode a_p1 a_p2 a_k b_cells a_sx a_sy a_sw a_sh a_mw a_mh) : wpY_feed post (f_count, f_hostW, f_hostH, f_focus, f_resW, f_resH, a_kind, a_val, a_tk, a_tv, b_live, a_wasLive, a_rx, a_ry, a_rw, a_rh, a_oldW, a_oldH, a_row, a_col, a_top, a_bot, a_mode, a_p1, a_p2, a_k, b_cells, a_sx, a_sy, a_sw, a_sh, a_mw, a_mh) (nI g) p1 := by
  unfold wpY_feed
  refine yw_live hg hl (br_f (by decide) (nm_r e ⟨vi_8 hg, ?_⟩))
  rw [cg_8 hg, hM]
  refine br_f (by decide) ⟨vi_8 hg, br_f (by decide) ?_⟩
  by_cases z : v < 48
  · exact br_t (nI_lt (b := 48) z (by omega)) K
  · exact br_f (nI_nlt (b := 48) (by omega) (by omega)) (br_t (nI_lt (a := 57) (by omega) (by omega)) K)
end FD
