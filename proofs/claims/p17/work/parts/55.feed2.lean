section FP
variable {R C T B M P1 P2 K : Nat → Int32} {g w h r q t b m a d kk v : Nat} {v2 : Int32}
theorem fo_fb (hg : g < 8) (w4 : w ≤ 24) (h4 : h ≤ 12) (e1 : R g = nI r) (e2 : r < h) (e3 : C g = nI q) (e4 : q < w) (e5 : T g = nI t) (e6 : B g = nI b) (e7 : t ≤ b) (e8 : b < h) (e9 : M g = nI 2) (e11 : P1 g = nI a) (e12 : a ≤ 99) (e13 : P2 g = nI d) (e14 : d ≤ 99) (e15 : K g = nI kk) (e16 : kk ≤ 2) (ev : v2 &&& 255 = nI v) (h64 : 64 ≤ v) (h126 : v ≤ 126) : fo_C R C T B M P1 P2 K g w h v2 := by
  have v8 := vi_8 hg
  have e := cg_8 hg
  obtain ⟨n1l, n1u⟩ := fd_n1 a e12
  obtain ⟨n2l, n2u⟩ := fd_n1 d e14
  have n59 : ¬ nI v = 59 := fun y => by have := (nI_eq (a := v) (b := 59) (by omega) (by omega)).mp y; omega
  have RF : ∀ (f_hostWidth f_hostHeight f_root f_focusedPane f_liveCount : Int32) (a_parent a_first a_second a_orientation a_share a_leastWidth a_leastHeight a_rectX a_rectY a_rectW a_rectH a_order a_live a_screenWidth a_screenHeight a_cursorRow a_cursorCol a_regionTop a_regionBottom a_parserMode a_paramOne a_paramTwo a_paramIndex a_cells : Nat → Int32) (post : Int32 → St2 → Prop), a_live g ≠ 0 → wpX_runFinal (fun u => post 1 u) (f_hostWidth, f_hostHeight, f_root, f_focusedPane, f_liveCount, a_parent, a_first, a_second, a_orientation, a_share, a_leastWidth, a_leastHeight, a_rectX, a_rectY, a_rectW, a_rectH, a_order, a_live, a_screenWidth, a_screenHeight, R, C, T, B, upd M g 0, P1, P2, K, a_cells) (nI g) (nI v) → wpX_feed post (f_hostWidth, f_hostHeight, f_root, f_focusedPane, f_liveCount, a_parent, a_first, a_second, a_orientation, a_share, a_leastWidth, a_leastHeight, a_rectX, a_rectY, a_rectW, a_rectH, a_order, a_live, a_screenWidth, a_screenHeight, R, C, T, B, M, P1, P2, K, a_cells) (nI g) v2 := by
    intro f_hostWidth f_hostHeight f_root f_focusedPane f_liveCount a_parent a_first a_second a_orientation a_share a_leastWidth a_leastHeight a_rectX a_rectY a_rectW a_rectH a_order a_live a_screenWidth a_screenHeight a_cursorRow a_cursorCol a_regionTop a_regionBottom a_parserMode a_paramOne a_paramTwo a_paramIndex a_cells post hl KK
    exact xw_feed hg hl ev e9 (by omega) (fun y => by omega) (fun y => by omega) (fun _ => br_f (nI_nlt (b := 48) (by omega) (by omega)) (br_t (nI_lt (a := 57) (by omega) (by omega)) (br_f n59 ⟨v8, nm_r (e' := upd M g 0) (by rw [e]) (br_f (nI_nlt (b := 64) h64 (by omega)) (br_f (nI_nlt (a := 126) h126 (by omega)) KK))⟩)))
  by_cases z65 : v = 65
  · subst z65
    refine ⟨upd R g (nI (r - fd_n a)), C, T, B, upd M g 0, P1, P2, K, id, (fun i hi => ⟨pk_un hi, rfl, rfl, rfl, pk_un hi, rfl, rfl, rfl⟩), ⟨r - fd_n a, q, t, b, 0, a, d, kk, pk_us, by omega, e3, e4, e5, e6, e7, e8, pk_us, by omega, e11, e12, e13, e14, e15, e16⟩, fo_id1, fo_id2, ?_⟩
    intro f_hostWidth f_hostHeight f_root f_focusedPane f_liveCount a_parent a_first a_second a_orientation a_share a_leastWidth a_leastHeight a_rectX a_rectY a_rectW a_rectH a_order a_live a_screenWidth a_screenHeight a_cursorRow a_cursorCol a_regionTop a_regionBottom a_parserMode a_paramOne a_paramTwo a_paramIndex a_cells hl s1 s2 H post KK
    refine RF f_hostWidth f_hostHeight f_root f_focusedPane f_liveCount a_parent a_first a_second a_orientation a_share a_leastWidth a_leastHeight a_rectX a_rectY a_rectW a_rectH a_order a_live a_screenWidth a_screenHeight a_cursorRow a_cursorCol a_regionTop a_regionBottom a_parserMode a_paramOne a_paramTwo a_paramIndex a_cells _ hl ⟨v8, ?_⟩
    rw [e, e11, e13, e1, e3, s1, s2]
    refine xw_orOne e12 ⟨v8, xw_orOne e14 ⟨v8, nm_e ⟨v8, nm_e ⟨v8, nm_e ⟨v8, nm_e ?_⟩⟩⟩⟩⟩
    exact br_t rfl (xw_larger ⟨v8, nm_r (e' := upd R g (nI (r - fd_n a))) (by rw [la_mxs (by omega) (by omega)]) KK⟩)
  by_cases z66 : v = 66
  · subst z66
    refine ⟨upd R g (nI (if r + fd_n a ≤ h - 1 then r + fd_n a else h - 1)), C, T, B, upd M g 0, P1, P2, K, id, (fun i hi => ⟨pk_un hi, rfl, rfl, rfl, pk_un hi, rfl, rfl, rfl⟩), ⟨(if r + fd_n a ≤ h - 1 then r + fd_n a else h - 1), q, t, b, 0, a, d, kk, pk_us, by split <;> omega, e3, e4, e5, e6, e7, e8, pk_us, by omega, e11, e12, e13, e14, e15, e16⟩, fo_id1, fo_id2, ?_⟩
    intro f_hostWidth f_hostHeight f_root f_focusedPane f_liveCount a_parent a_first a_second a_orientation a_share a_leastWidth a_leastHeight a_rectX a_rectY a_rectW a_rectH a_order a_live a_screenWidth a_screenHeight a_cursorRow a_cursorCol a_regionTop a_regionBottom a_parserMode a_paramOne a_paramTwo a_paramIndex a_cells hl s1 s2 H post KK
    refine RF f_hostWidth f_hostHeight f_root f_focusedPane f_liveCount a_parent a_first a_second a_orientation a_share a_leastWidth a_leastHeight a_rectX a_rectY a_rectW a_rectH a_order a_live a_screenWidth a_screenHeight a_cursorRow a_cursorCol a_regionTop a_regionBottom a_parserMode a_paramOne a_paramTwo a_paramIndex a_cells _ hl ⟨v8, ?_⟩
    rw [e, e11, e13, e1, e3, s1, s2]
    refine xw_orOne e12 ⟨v8, xw_orOne e14 ⟨v8, nm_e ⟨v8, nm_e ⟨v8, nm_e ⟨v8, nm_e ?_⟩⟩⟩⟩⟩
    exact (br_f (by decide) (br_t rfl (xw_smaller ⟨v8, nm_r (e' := upd R g (nI (if r + fd_n a ≤ h - 1 then r + fd_n a else h - 1))) (by rw [nI_add, la_mns (by omega) (by omega) (by omega)]) KK⟩)))
  by_cases z67 : v = 67
  · subst z67
    refine ⟨R, upd C g (nI (if q + fd_n a ≤ w - 1 then q + fd_n a else w - 1)), T, B, upd M g 0, P1, P2, K, id, (fun i hi => ⟨rfl, pk_un hi, rfl, rfl, pk_un hi, rfl, rfl, rfl⟩), ⟨r, (if q + fd_n a ≤ w - 1 then q + fd_n a else w - 1), t, b, 0, a, d, kk, e1, e2, pk_us, by split <;> omega, e5, e6, e7, e8, pk_us, by omega, e11, e12, e13, e14, e15, e16⟩, fo_id1, fo_id2, ?_⟩
    intro f_hostWidth f_hostHeight f_root f_focusedPane f_liveCount a_parent a_first a_second a_orientation a_share a_leastWidth a_leastHeight a_rectX a_rectY a_rectW a_rectH a_order a_live a_screenWidth a_screenHeight a_cursorRow a_cursorCol a_regionTop a_regionBottom a_parserMode a_paramOne a_paramTwo a_paramIndex a_cells hl s1 s2 H post KK
    refine RF f_hostWidth f_hostHeight f_root f_focusedPane f_liveCount a_parent a_first a_second a_orientation a_share a_leastWidth a_leastHeight a_rectX a_rectY a_rectW a_rectH a_order a_live a_screenWidth a_screenHeight a_cursorRow a_cursorCol a_regionTop a_regionBottom a_parserMode a_paramOne a_paramTwo a_paramIndex a_cells _ hl ⟨v8, ?_⟩
    rw [e, e11, e13, e1, e3, s1, s2]
    refine xw_orOne e12 ⟨v8, xw_orOne e14 ⟨v8, nm_e ⟨v8, nm_e ⟨v8, nm_e ⟨v8, nm_e ?_⟩⟩⟩⟩⟩
    exact (br_f (by decide) (br_f (by decide) (br_t rfl (xw_smaller ⟨v8, nm_r (e' := upd C g (nI (if q + fd_n a ≤ w - 1 then q + fd_n a else w - 1))) (by rw [nI_add, la_mns (by omega) (by omega) (by omega)]) KK⟩))))
  by_cases z68 : v = 68
  · subst z68
    refine ⟨R, upd C g (nI (q - fd_n a)), T, B, upd M g 0, P1, P2, K, id, (fun i hi => ⟨rfl, pk_un hi, rfl, rfl, pk_un hi, rfl, rfl, rfl⟩), ⟨r, q - fd_n a, t, b, 0, a, d, kk, e1, e2, pk_us, by omega, e5, e6, e7, e8, pk_us, by omega, e11, e12, e13, e14, e15, e16⟩, fo_id1, fo_id2, ?_⟩
    intro f_hostWidth f_hostHeight f_root f_focusedPane f_liveCount a_parent a_first a_second a_orientation a_share a_leastWidth a_leastHeight a_rectX a_rectY a_rectW a_rectH a_order a_live a_screenWidth a_screenHeight a_cursorRow a_cursorCol a_regionTop a_regionBottom a_parserMode a_paramOne a_paramTwo a_paramIndex a_cells hl s1 s2 H post KK
    refine RF f_hostWidth f_hostHeight f_root f_focusedPane f_liveCount a_parent a_first a_second a_orientation a_share a_leastWidth a_leastHeight a_rectX a_rectY a_rectW a_rectH a_order a_live a_screenWidth a_screenHeight a_cursorRow a_cursorCol a_regionTop a_regionBottom a_parserMode a_paramOne a_paramTwo a_paramIndex a_cells _ hl ⟨v8, ?_⟩
    rw [e, e11, e13, e1, e3, s1, s2]
    refine xw_orOne e12 ⟨v8, xw_orOne e14 ⟨v8, nm_e ⟨v8, nm_e ⟨v8, nm_e ⟨v8, nm_e ?_⟩⟩⟩⟩⟩
    exact (br_f (by decide) (br_f (by decide) (br_f (by decide) (br_t rfl (xw_larger ⟨v8, nm_r (e' := upd C g (nI (q - fd_n a))) (by rw [la_mxs (by omega) (by omega)]) KK⟩)))))
  by_cases z72 : v = 72
  · subst z72
    refine ⟨upd R g (nI (if fd_n a - 1 ≤ h - 1 then fd_n a - 1 else h - 1)), upd C g (nI (if fd_n d - 1 ≤ w - 1 then fd_n d - 1 else w - 1)), T, B, upd M g 0, P1, P2, K, id, (fun i hi => ⟨pk_un hi, pk_un hi, rfl, rfl, pk_un hi, rfl, rfl, rfl⟩), ⟨(if fd_n a - 1 ≤ h - 1 then fd_n a - 1 else h - 1), (if fd_n d - 1 ≤ w - 1 then fd_n d - 1 else w - 1), t, b, 0, a, d, kk, pk_us, by split <;> omega, pk_us, by split <;> omega, e5, e6, e7, e8, pk_us, by omega, e11, e12, e13, e14, e15, e16⟩, fo_id1, fo_id2, ?_⟩
    intro f_hostWidth f_hostHeight f_root f_focusedPane f_liveCount a_parent a_first a_second a_orientation a_share a_leastWidth a_leastHeight a_rectX a_rectY a_rectW a_rectH a_order a_live a_screenWidth a_screenHeight a_cursorRow a_cursorCol a_regionTop a_regionBottom a_parserMode a_paramOne a_paramTwo a_paramIndex a_cells hl s1 s2 H post KK
    refine RF f_hostWidth f_hostHeight f_root f_focusedPane f_liveCount a_parent a_first a_second a_orientation a_share a_leastWidth a_leastHeight a_rectX a_rectY a_rectW a_rectH a_order a_live a_screenWidth a_screenHeight a_cursorRow a_cursorCol a_regionTop a_regionBottom a_parserMode a_paramOne a_paramTwo a_paramIndex a_cells _ hl ⟨v8, ?_⟩
    rw [e, e11, e13, e1, e3, s1, s2]
    refine xw_orOne e12 ⟨v8, xw_orOne e14 ⟨v8, nm_e ⟨v8, nm_e ⟨v8, nm_e ⟨v8, nm_e ?_⟩⟩⟩⟩⟩
    exact (br_f (by decide) (br_f (by decide) (br_f (by decide) (br_f (by decide) (br_t rfl (xw_smaller ⟨v8, nm_r (e' := upd R g (nI (if fd_n a - 1 ≤ h - 1 then fd_n a - 1 else h - 1))) (by rw [la_sub1 n1l, la_mns (by omega) (by omega) (by omega)]) (xw_smaller ⟨v8, nm_r (e' := upd C g (nI (if fd_n d - 1 ≤ w - 1 then fd_n d - 1 else w - 1))) (by rw [la_sub1 n2l, la_mns (by omega) (by omega) (by omega)]) KK⟩)⟩))))))
  by_cases z74 : v = 74
  · subst z74
    refine ⟨R, C, T, B, upd M g 0, P1, P2, K, (ce_w (ce_q (g * 288) 0 0 h w)), (fun i hi => ⟨rfl, rfl, rfl, rfl, pk_un hi, rfl, rfl, rfl⟩), ⟨r, q, t, b, 0, a, d, kk, e1, e2, e3, e4, e5, e6, e7, e8, pk_us, by omega, e11, e12, e13, e14, e15, e16⟩, (fun x y cr => ce_Rw cr), (fun x => ce_Ow (fun j z => by unfold ce_q at z; omega)), ?_⟩
    intro f_hostWidth f_hostHeight f_root f_focusedPane f_liveCount a_parent a_first a_second a_orientation a_share a_leastWidth a_leastHeight a_rectX a_rectY a_rectW a_rectH a_order a_live a_screenWidth a_screenHeight a_cursorRow a_cursorCol a_regionTop a_regionBottom a_parserMode a_paramOne a_paramTwo a_paramIndex a_cells hl s1 s2 H post KK
    refine RF f_hostWidth f_hostHeight f_root f_focusedPane f_liveCount a_parent a_first a_second a_orientation a_share a_leastWidth a_leastHeight a_rectX a_rectY a_rectW a_rectH a_order a_live a_screenWidth a_screenHeight a_cursorRow a_cursorCol a_regionTop a_regionBottom a_parserMode a_paramOne a_paramTwo a_paramIndex a_cells _ hl ⟨v8, ?_⟩
    rw [e, e11, e13, e1, e3, s1, s2]
    refine xw_orOne e12 ⟨v8, xw_orOne e14 ⟨v8, nm_e ⟨v8, nm_e ⟨v8, nm_e ⟨v8, nm_e ?_⟩⟩⟩⟩⟩
    exact (br_f (by decide) (br_f (by decide) (br_f (by decide) (br_f (by decide) (br_f (by decide) (br_t rfl (xw_blank (r0 := 0) (c0 := 0) (r1 := h) (c1 := w) hg (by omega) h4 w4 (by omega) KK)))))))
  by_cases z75 : v = 75
  · subst z75
    refine ⟨R, C, T, B, upd M g 0, P1, P2, K, (ce_w (ce_q (g * 288) r q (r + 1) w)), (fun i hi => ⟨rfl, rfl, rfl, rfl, pk_un hi, rfl, rfl, rfl⟩), ⟨r, q, t, b, 0, a, d, kk, e1, e2, e3, e4, e5, e6, e7, e8, pk_us, by omega, e11, e12, e13, e14, e15, e16⟩, (fun x y cr => ce_Rw cr), (fun x => ce_Ow (fun j z => by unfold ce_q at z; omega)), ?_⟩
    intro f_hostWidth f_hostHeight f_root f_focusedPane f_liveCount a_parent a_first a_second a_orientation a_share a_leastWidth a_leastHeight a_rectX a_rectY a_rectW a_rectH a_order a_live a_screenWidth a_screenHeight a_cursorRow a_cursorCol a_regionTop a_regionBottom a_parserMode a_paramOne a_paramTwo a_paramIndex a_cells hl s1 s2 H post KK
    refine RF f_hostWidth f_hostHeight f_root f_focusedPane f_liveCount a_parent a_first a_second a_orientation a_share a_leastWidth a_leastHeight a_rectX a_rectY a_rectW a_rectH a_order a_live a_screenWidth a_screenHeight a_cursorRow a_cursorCol a_regionTop a_regionBottom a_parserMode a_paramOne a_paramTwo a_paramIndex a_cells _ hl ⟨v8, ?_⟩
    rw [e, e11, e13, e1, e3, s1, s2]
    refine xw_orOne e12 ⟨v8, xw_orOne e14 ⟨v8, nm_e ⟨v8, nm_e ⟨v8, nm_e ⟨v8, nm_e ?_⟩⟩⟩⟩⟩
    refine (br_f (by decide) (br_f (by decide) (br_f (by decide) (br_f (by decide) (br_f (by decide) (br_f (by decide) (br_t rfl ?_)))))))
    rw [nI_1 r]
    exact xw_blank (r0 := r) (c0 := q) (r1 := r + 1) (c1 := w) hg (by omega) (by omega) w4 (by omega) KK
  by_cases z83 : v = 83
  · subst z83
    refine ⟨R, C, T, B, upd M g 0, P1, P2, K, (ce_n (g * 288 + t * 24) (g * 288 + b * 24) (fd_n a)), (fun i hi => ⟨rfl, rfl, rfl, rfl, pk_un hi, rfl, rfl, rfl⟩), ⟨r, q, t, b, 0, a, d, kk, e1, e2, e3, e4, e5, e6, e7, e8, pk_us, by omega, e11, e12, e13, e14, e15, e16⟩, (fun x y cr => ce_Rn (by omega) e8 (fd_n a) cr), (fun x => ce_On (by omega) (fd_n a)), ?_⟩
    intro f_hostWidth f_hostHeight f_root f_focusedPane f_liveCount a_parent a_first a_second a_orientation a_share a_leastWidth a_leastHeight a_rectX a_rectY a_rectW a_rectH a_order a_live a_screenWidth a_screenHeight a_cursorRow a_cursorCol a_regionTop a_regionBottom a_parserMode a_paramOne a_paramTwo a_paramIndex a_cells hl s1 s2 H post KK
    refine RF f_hostWidth f_hostHeight f_root f_focusedPane f_liveCount a_parent a_first a_second a_orientation a_share a_leastWidth a_leastHeight a_rectX a_rectY a_rectW a_rectH a_order a_live a_screenWidth a_screenHeight a_cursorRow a_cursorCol a_regionTop a_regionBottom a_parserMode a_paramOne a_paramTwo a_paramIndex a_cells _ hl ⟨v8, ?_⟩
    rw [e, e11, e13, e1, e3, s1, s2]
    refine xw_orOne e12 ⟨v8, xw_orOne e14 ⟨v8, nm_e ⟨v8, nm_e ⟨v8, nm_e ⟨v8, nm_e ?_⟩⟩⟩⟩⟩
    exact (br_f (by decide) (br_f (by decide) (br_f (by decide) (br_f (by decide) (br_f (by decide) (br_f (by decide) (br_f (by decide) (br_t rfl (xw_scroll (m := fd_n a) hg e5 e6 e7 (by omega) (by omega) H KK)))))))))
  by_cases z114 : v = 114
  · subst z114
    have zb : fd_z d h ≤ h ∧ 1 ≤ fd_z d h := by unfold fd_z; (repeat' split) <;> omega
    by_cases y : fd_z d h ≤ fd_n a
    · refine ⟨R, C, T, B, upd M g 0, P1, P2, K, id, (fun i hi => ⟨rfl, rfl, rfl, rfl, pk_un hi, rfl, rfl, rfl⟩), ⟨r, q, t, b, 0, a, d, kk, e1, e2, e3, e4, e5, e6, e7, e8, pk_us, by omega, e11, e12, e13, e14, e15, e16⟩, fo_id1, fo_id2, ?_⟩
      intro f_hostWidth f_hostHeight f_root f_focusedPane f_liveCount a_parent a_first a_second a_orientation a_share a_leastWidth a_leastHeight a_rectX a_rectY a_rectW a_rectH a_order a_live a_screenWidth a_screenHeight a_cursorRow a_cursorCol a_regionTop a_regionBottom a_parserMode a_paramOne a_paramTwo a_paramIndex a_cells hl s1 s2 H post KK
      refine RF f_hostWidth f_hostHeight f_root f_focusedPane f_liveCount a_parent a_first a_second a_orientation a_share a_leastWidth a_leastHeight a_rectX a_rectY a_rectW a_rectH a_order a_live a_screenWidth a_screenHeight a_cursorRow a_cursorCol a_regionTop a_regionBottom a_parserMode a_paramOne a_paramTwo a_paramIndex a_cells _ hl ⟨v8, ?_⟩
      rw [e, e11, e13, e1, e3, s1, s2]
      refine xw_orOne e12 ⟨v8, xw_orOne e14 ⟨v8, nm_e ⟨v8, nm_e ⟨v8, nm_e ⟨v8, nm_e ?_⟩⟩⟩⟩⟩
      exact (br_f (by decide) (br_f (by decide) (br_f (by decide) (br_f (by decide) (br_f (by decide) (br_f (by decide) (br_f (by decide) (br_f (by decide) (br_t rfl (xw_reg hg s2 e13 e14 (by omega) h4 n1l n1u (fun _ => KK) (fun x => by omega)))))))))))
    · refine ⟨upd R g 0, upd C g 0, upd T g (nI (fd_n a - 1)), upd B g (nI (fd_z d h - 1)), upd M g 0, P1, P2, K, id, (fun i hi => ⟨pk_un hi, pk_un hi, pk_un hi, pk_un hi, pk_un hi, rfl, rfl, rfl⟩), ⟨0, 0, fd_n a - 1, fd_z d h - 1, 0, a, d, kk, pk_us, by omega, pk_us, by omega, pk_us, pk_us, by omega, by omega, pk_us, by omega, e11, e12, e13, e14, e15, e16⟩, fo_id1, fo_id2, ?_⟩
      intro f_hostWidth f_hostHeight f_root f_focusedPane f_liveCount a_parent a_first a_second a_orientation a_share a_leastWidth a_leastHeight a_rectX a_rectY a_rectW a_rectH a_order a_live a_screenWidth a_screenHeight a_cursorRow a_cursorCol a_regionTop a_regionBottom a_parserMode a_paramOne a_paramTwo a_paramIndex a_cells hl s1 s2 H post KK
      refine RF f_hostWidth f_hostHeight f_root f_focusedPane f_liveCount a_parent a_first a_second a_orientation a_share a_leastWidth a_leastHeight a_rectX a_rectY a_rectW a_rectH a_order a_live a_screenWidth a_screenHeight a_cursorRow a_cursorCol a_regionTop a_regionBottom a_parserMode a_paramOne a_paramTwo a_paramIndex a_cells _ hl ⟨v8, ?_⟩
      rw [e, e11, e13, e1, e3, s1, s2]
      refine xw_orOne e12 ⟨v8, xw_orOne e14 ⟨v8, nm_e ⟨v8, nm_e ⟨v8, nm_e ⟨v8, nm_e ?_⟩⟩⟩⟩⟩
      exact (br_f (by decide) (br_f (by decide) (br_f (by decide) (br_f (by decide) (br_f (by decide) (br_f (by decide) (br_f (by decide) (br_f (by decide) (br_t rfl (xw_reg hg s2 e13 e14 (by omega) h4 n1l n1u (fun x => by omega) (fun _ => KK)))))))))))
  have y65 : ¬ nI v = 65 := fun y => z65 ((nI_eq (b := 65) (by omega) (by omega)).mp y)
  have y66 : ¬ nI v = 66 := fun y => z66 ((nI_eq (b := 66) (by omega) (by omega)).mp y)
  have y67 : ¬ nI v = 67 := fun y => z67 ((nI_eq (b := 67) (by omega) (by omega)).mp y)
  have y68 : ¬ nI v = 68 := fun y => z68 ((nI_eq (b := 68) (by omega) (by omega)).mp y)
  have y72 : ¬ nI v = 72 := fun y => z72 ((nI_eq (b := 72) (by omega) (by omega)).mp y)
  have y74 : ¬ nI v = 74 := fun y => z74 ((nI_eq (b := 74) (by omega) (by omega)).mp y)
  have y75 : ¬ nI v = 75 := fun y => z75 ((nI_eq (b := 75) (by omega) (by omega)).mp y)
  have y83 : ¬ nI v = 83 := fun y => z83 ((nI_eq (b := 83) (by omega) (by omega)).mp y)
  have y114 : ¬ nI v = 114 := fun y => z114 ((nI_eq (b := 114) (by omega) (by omega)).mp y)
  refine ⟨R, C, T, B, upd M g 0, P1, P2, K, id, (fun i hi => ⟨rfl, rfl, rfl, rfl, pk_un hi, rfl, rfl, rfl⟩), ⟨r, q, t, b, 0, a, d, kk, e1, e2, e3, e4, e5, e6, e7, e8, pk_us, by omega, e11, e12, e13, e14, e15, e16⟩, fo_id1, fo_id2, ?_⟩
  intro f_hostWidth f_hostHeight f_root f_focusedPane f_liveCount a_parent a_first a_second a_orientation a_share a_leastWidth a_leastHeight a_rectX a_rectY a_rectW a_rectH a_order a_live a_screenWidth a_screenHeight a_cursorRow a_cursorCol a_regionTop a_regionBottom a_parserMode a_paramOne a_paramTwo a_paramIndex a_cells hl s1 s2 H post KK
  refine RF f_hostWidth f_hostHeight f_root f_focusedPane f_liveCount a_parent a_first a_second a_orientation a_share a_leastWidth a_leastHeight a_rectX a_rectY a_rectW a_rectH a_order a_live a_screenWidth a_screenHeight a_cursorRow a_cursorCol a_regionTop a_regionBottom a_parserMode a_paramOne a_paramTwo a_paramIndex a_cells _ hl ⟨v8, ?_⟩
  rw [e, e11, e13, e1, e3, s1, s2]
  refine xw_orOne e12 ⟨v8, xw_orOne e14 ⟨v8, nm_e ⟨v8, nm_e ⟨v8, nm_e ⟨v8, nm_e ?_⟩⟩⟩⟩⟩
  exact (br_f y65 (br_f y66 (br_f y67 (br_f y68 (br_f y72 (br_f y74 (br_f y75 (br_f y83 (br_f y114 KK)))))))))
theorem fo_2 (hg : g < 8) (w4 : w ≤ 24) (h4 : h ≤ 12) (e1 : R g = nI r) (e2 : r < h) (e3 : C g = nI q) (e4 : q < w) (e5 : T g = nI t) (e6 : B g = nI b) (e7 : t ≤ b) (e8 : b < h) (e9 : M g = nI 2) (e11 : P1 g = nI a) (e12 : a ≤ 99) (e13 : P2 g = nI d) (e14 : d ≤ 99) (e15 : K g = nI kk) (e16 : kk ≤ 2) (ev : v2 &&& 255 = nI v) (hv : v < 256) : fo_C R C T B M P1 P2 K g w h v2 := by
  have v8 := vi_8 hg
  have e := cg_8 hg
  have m99 : ∀ x, x < 2000 → la_mn 99 (nI x) = nI (if x ≤ 99 then x else 99) := fun x hx => la_mnN (a := 99) (by omega) (by omega)
  by_cases hd : 48 ≤ v ∧ v ≤ 57
  · obtain ⟨d1, d2⟩ := hd
    have e48 : nI v - 48 = nI (v - 48) := pk_sub (b := 48) d1
    have AD : ∀ (f_hostWidth f_hostHeight f_root f_focusedPane f_liveCount : Int32) (a_parent a_first a_second a_orientation a_share a_leastWidth a_leastHeight a_rectX a_rectY a_rectW a_rectH a_order a_live a_screenWidth a_screenHeight a_cursorRow a_cursorCol a_regionTop a_regionBottom a_parserMode a_paramOne a_paramTwo a_paramIndex a_cells : Nat → Int32) (post : Int32 → St2 → Prop), a_live g ≠ 0 → wpX_addDigit (fun u => post 1 u) (f_hostWidth, f_hostHeight, f_root, f_focusedPane, f_liveCount, a_parent, a_first, a_second, a_orientation, a_share, a_leastWidth, a_leastHeight, a_rectX, a_rectY, a_rectW, a_rectH, a_order, a_live, a_screenWidth, a_screenHeight, R, C, T, B, M, P1, P2, K, a_cells) (nI g) (nI (v - 48)) → wpX_feed post (f_hostWidth, f_hostHeight, f_root, f_focusedPane, f_liveCount, a_parent, a_first, a_second, a_orientation, a_share, a_leastWidth, a_leastHeight, a_rectX, a_rectY, a_rectW, a_rectH, a_order, a_live, a_screenWidth, a_screenHeight, R, C, T, B, M, P1, P2, K, a_cells) (nI g) v2 := by
      intro f_hostWidth f_hostHeight f_root f_focusedPane f_liveCount a_parent a_first a_second a_orientation a_share a_leastWidth a_leastHeight a_rectX a_rectY a_rectW a_rectH a_order a_live a_screenWidth a_screenHeight a_cursorRow a_cursorCol a_regionTop a_regionBottom a_parserMode a_paramOne a_paramTwo a_paramIndex a_cells post hl KK
      refine xw_feed hg hl ev e9 (by omega) (fun y => by omega) (fun y => by omega) (fun _ => br_f (nI_nlt (b := 48) d1 (by omega)) (br_f (nI_nlt (a := 57) d2 (by omega)) ?_))
      rw [e48]
      exact KK
    by_cases k0 : kk = 0
    · refine ⟨R, C, T, B, M, upd P1 g (la_mn 99 (nI (a * 10 + (v - 48)))), P2, K, id, (fun i hi => ⟨rfl, rfl, rfl, rfl, rfl, pk_un hi, rfl, rfl⟩), ⟨r, q, t, b, 2, _, d, kk, e1, e2, e3, e4, e5, e6, e7, e8, e9, by omega, pk_us.trans (m99 _ (by omega)), by split <;> omega, e13, e14, e15, e16⟩, fo_id1, fo_id2, ?_⟩
      intro f_hostWidth f_hostHeight f_root f_focusedPane f_liveCount a_parent a_first a_second a_orientation a_share a_leastWidth a_leastHeight a_rectX a_rectY a_rectW a_rectH a_order a_live a_screenWidth a_screenHeight a_cursorRow a_cursorCol a_regionTop a_regionBottom a_parserMode a_paramOne a_paramTwo a_paramIndex a_cells hl s1 s2 H post KK
      refine AD f_hostWidth f_hostHeight f_root f_focusedPane f_liveCount a_parent a_first a_second a_orientation a_share a_leastWidth a_leastHeight a_rectX a_rectY a_rectW a_rectH a_order a_live a_screenWidth a_screenHeight a_cursorRow a_cursorCol a_regionTop a_regionBottom a_parserMode a_paramOne a_paramTwo a_paramIndex a_cells _ hl ⟨v8, ?_⟩
      rw [e, e15, e11, e13, show (10 : Int32) = nI 10 from rfl, pk_mul, pk_mul, nI_add, nI_add]
      exact pk_eq kk 0 (fun _ => ⟨v8, xw_smaller ⟨v8, nm_e KK⟩⟩) (fun y => absurd k0 y)
    · by_cases k1 : kk = 1
      · refine ⟨R, C, T, B, M, P1, upd P2 g (la_mn 99 (nI (d * 10 + (v - 48)))), K, id, (fun i hi => ⟨rfl, rfl, rfl, rfl, rfl, rfl, pk_un hi, rfl⟩), ⟨r, q, t, b, 2, a, _, kk, e1, e2, e3, e4, e5, e6, e7, e8, e9, by omega, e11, e12, pk_us.trans (m99 _ (by omega)), by split <;> omega, e15, e16⟩, fo_id1, fo_id2, ?_⟩
        intro f_hostWidth f_hostHeight f_root f_focusedPane f_liveCount a_parent a_first a_second a_orientation a_share a_leastWidth a_leastHeight a_rectX a_rectY a_rectW a_rectH a_order a_live a_screenWidth a_screenHeight a_cursorRow a_cursorCol a_regionTop a_regionBottom a_parserMode a_paramOne a_paramTwo a_paramIndex a_cells hl s1 s2 H post KK
        refine AD f_hostWidth f_hostHeight f_root f_focusedPane f_liveCount a_parent a_first a_second a_orientation a_share a_leastWidth a_leastHeight a_rectX a_rectY a_rectW a_rectH a_order a_live a_screenWidth a_screenHeight a_cursorRow a_cursorCol a_regionTop a_regionBottom a_parserMode a_paramOne a_paramTwo a_paramIndex a_cells _ hl ⟨v8, ?_⟩
        rw [e, e15, e11, e13, show (10 : Int32) = nI 10 from rfl, pk_mul, pk_mul, nI_add, nI_add]
        exact pk_eq kk 0 (fun y => absurd y k0) (fun _ => ⟨v8, pk_eq kk 1 (fun _ => ⟨v8, xw_smaller ⟨v8, nm_e KK⟩⟩) (fun y => absurd k1 y)⟩)
      · refine ⟨R, C, T, B, M, P1, P2, K, id, (fun i hi => ⟨rfl, rfl, rfl, rfl, rfl, rfl, rfl, rfl⟩), ⟨r, q, t, b, 2, a, d, kk, e1, e2, e3, e4, e5, e6, e7, e8, e9, by omega, e11, e12, e13, e14, e15, e16⟩, fo_id1, fo_id2, ?_⟩
        intro f_hostWidth f_hostHeight f_root f_focusedPane f_liveCount a_parent a_first a_second a_orientation a_share a_leastWidth a_leastHeight a_rectX a_rectY a_rectW a_rectH a_order a_live a_screenWidth a_screenHeight a_cursorRow a_cursorCol a_regionTop a_regionBottom a_parserMode a_paramOne a_paramTwo a_paramIndex a_cells hl s1 s2 H post KK
        refine AD f_hostWidth f_hostHeight f_root f_focusedPane f_liveCount a_parent a_first a_second a_orientation a_share a_leastWidth a_leastHeight a_rectX a_rectY a_rectW a_rectH a_order a_live a_screenWidth a_screenHeight a_cursorRow a_cursorCol a_regionTop a_regionBottom a_parserMode a_paramOne a_paramTwo a_paramIndex a_cells _ hl ⟨v8, ?_⟩
        rw [e, e15]
        exact pk_eq kk 0 (fun y => absurd y k0) (fun _ => ⟨v8, pk_eq kk 1 (fun y => absurd y k1) (fun _ => KK)⟩)
  have hc : v < 48 ∨ 57 < v := by omega
  have SQ : ∀ (f_hostWidth f_hostHeight f_root f_focusedPane f_liveCount : Int32) (a_parent a_first a_second a_orientation a_share a_leastWidth a_leastHeight a_rectX a_rectY a_rectW a_rectH a_order a_live a_screenWidth a_screenHeight a_cursorRow a_cursorCol a_regionTop a_regionBottom a_parserMode a_paramOne a_paramTwo a_paramIndex a_cells : Nat → Int32) (post : Int32 → St2 → Prop), a_live g ≠ 0 → wX_feedSequence_24 (fun u => post 1 u) (nI g) (nI v) f_hostWidth f_hostHeight f_root f_focusedPane f_liveCount a_parent a_first a_second a_orientation a_share a_leastWidth a_leastHeight a_rectX a_rectY a_rectW a_rectH a_order a_live a_screenWidth a_screenHeight R C T B M P1 P2 K a_cells → wpX_feed post (f_hostWidth, f_hostHeight, f_root, f_focusedPane, f_liveCount, a_parent, a_first, a_second, a_orientation, a_share, a_leastWidth, a_leastHeight, a_rectX, a_rectY, a_rectW, a_rectH, a_order, a_live, a_screenWidth, a_screenHeight, R, C, T, B, M, P1, P2, K, a_cells) (nI g) v2 := by
    intro f_hostWidth f_hostHeight f_root f_focusedPane f_liveCount a_parent a_first a_second a_orientation a_share a_leastWidth a_leastHeight a_rectX a_rectY a_rectW a_rectH a_order a_live a_screenWidth a_screenHeight a_cursorRow a_cursorCol a_regionTop a_regionBottom a_parserMode a_paramOne a_paramTwo a_paramIndex a_cells post hl KK
    refine xw_feed hg hl ev e9 (by omega) (fun y => by omega) (fun y => by omega) (fun _ => ?_)
    by_cases z : v < 48
    · exact br_t (nI_lt (b := 48) z (by omega)) KK
    · exact br_f (nI_nlt (b := 48) (by omega) (by omega)) (br_t (nI_lt (a := 57) (by omega) (by omega)) KK)
  by_cases z59 : v = 59
  · subst z59
    by_cases k2 : 2 ≤ kk
    · have k22 : kk = 2 := by omega
      subst k22
      refine ⟨R, C, T, B, M, P1, P2, K, id, (fun i hi => ⟨rfl, rfl, rfl, rfl, rfl, rfl, rfl, rfl⟩), ⟨r, q, t, b, 2, a, d, 2, e1, e2, e3, e4, e5, e6, e7, e8, e9, by omega, e11, e12, e13, e14, e15, e16⟩, fo_id1, fo_id2, ?_⟩
      intro f_hostWidth f_hostHeight f_root f_focusedPane f_liveCount a_parent a_first a_second a_orientation a_share a_leastWidth a_leastHeight a_rectX a_rectY a_rectW a_rectH a_order a_live a_screenWidth a_screenHeight a_cursorRow a_cursorCol a_regionTop a_regionBottom a_parserMode a_paramOne a_paramTwo a_paramIndex a_cells hl s1 s2 H post KK
      exact SQ f_hostWidth f_hostHeight f_root f_focusedPane f_liveCount a_parent a_first a_second a_orientation a_share a_leastWidth a_leastHeight a_rectX a_rectY a_rectW a_rectH a_order a_live a_screenWidth a_screenHeight a_cursorRow a_cursorCol a_regionTop a_regionBottom a_parserMode a_paramOne a_paramTwo a_paramIndex a_cells _ hl (br_t rfl ⟨v8, xw_smaller ⟨v8, nm_r (e' := K) (by rw [e, e15, show la_mn 2 (nI 2 + 1) = nI 2 from by decide, ← e15, pk_uu]) KK⟩⟩)
    · have e0 : la_mn 2 (nI (kk + 1)) = nI (kk + 1) := by
        have := la_mnN (a := 2) (b := kk + 1) (by omega) (by omega)
        rw [if_pos (by omega)] at this
        exact this
      refine ⟨R, C, T, B, M, P1, P2, upd K g (nI (kk + 1)), id, (fun i hi => ⟨rfl, rfl, rfl, rfl, rfl, rfl, rfl, pk_un hi⟩), ⟨r, q, t, b, 2, a, d, kk + 1, e1, e2, e3, e4, e5, e6, e7, e8, e9, by omega, e11, e12, e13, e14, pk_us, by omega⟩, fo_id1, fo_id2, ?_⟩
      intro f_hostWidth f_hostHeight f_root f_focusedPane f_liveCount a_parent a_first a_second a_orientation a_share a_leastWidth a_leastHeight a_rectX a_rectY a_rectW a_rectH a_order a_live a_screenWidth a_screenHeight a_cursorRow a_cursorCol a_regionTop a_regionBottom a_parserMode a_paramOne a_paramTwo a_paramIndex a_cells hl s1 s2 H post KK
      exact SQ f_hostWidth f_hostHeight f_root f_focusedPane f_liveCount a_parent a_first a_second a_orientation a_share a_leastWidth a_leastHeight a_rectX a_rectY a_rectW a_rectH a_order a_live a_screenWidth a_screenHeight a_cursorRow a_cursorCol a_regionTop a_regionBottom a_parserMode a_paramOne a_paramTwo a_paramIndex a_cells _ hl (br_t rfl ⟨v8, xw_smaller ⟨v8, nm_r (e' := upd K g (nI (kk + 1))) (by rw [e, e15, nI_1, e0]) KK⟩⟩)
  have n59 : ¬ nI v = 59 := fun y => z59 ((nI_eq (b := 59) (by omega) (by omega)).mp y)
  by_cases h64 : 64 ≤ v ∧ v ≤ 126
  · exact fo_fb hg w4 h4 e1 e2 e3 e4 e5 e6 e7 e8 e9 e11 e12 e13 e14 e15 e16 ev h64.1 h64.2
  · refine ⟨R, C, T, B, upd M g 0, P1, P2, K, id, (fun i hi => ⟨rfl, rfl, rfl, rfl, pk_un hi, rfl, rfl, rfl⟩), ⟨r, q, t, b, 0, a, d, kk, e1, e2, e3, e4, e5, e6, e7, e8, pk_us, by omega, e11, e12, e13, e14, e15, e16⟩, fo_id1, fo_id2, ?_⟩
    intro f_hostWidth f_hostHeight f_root f_focusedPane f_liveCount a_parent a_first a_second a_orientation a_share a_leastWidth a_leastHeight a_rectX a_rectY a_rectW a_rectH a_order a_live a_screenWidth a_screenHeight a_cursorRow a_cursorCol a_regionTop a_regionBottom a_parserMode a_paramOne a_paramTwo a_paramIndex a_cells hl s1 s2 H post KK
    refine SQ f_hostWidth f_hostHeight f_root f_focusedPane f_liveCount a_parent a_first a_second a_orientation a_share a_leastWidth a_leastHeight a_rectX a_rectY a_rectW a_rectH a_order a_live a_screenWidth a_screenHeight a_cursorRow a_cursorCol a_regionTop a_regionBottom a_parserMode a_paramOne a_paramTwo a_paramIndex a_cells _ hl (br_f n59 ⟨v8, nm_r (e' := upd M g 0) (by rw [e]) ?_⟩)
    by_cases y : v < 64
    · exact br_t (nI_lt (b := 64) y (by omega)) KK
    · exact br_f (nI_nlt (b := 64) (by omega) (by omega)) (br_t (nI_lt (a := 126) (by omega) (by omega)) KK)
end FP
/-- feeding a live pane -/
theorem fo_all {R C T B M P1 P2 K : Nat → Int32} {g w h : Nat} (hg : g < 8) (w4 : w ≤ 24) (h4 : h ≤ 12) (q : rl_q w h R C T B M P1 P2 K g) (v2 : Int32) : fo_C R C T B M P1 P2 K g w h v2 := by
  obtain ⟨r, q, t, b, m, a, d, kk, e1, e2, e3, e4, e5, e6, e7, e8, e9, e10, e11, e12, e13, e14, e15, e16⟩ := q
  obtain ⟨v, hv, ev⟩ := pk_andE v2 (m := 255) 8 (by decide)
  have hv : v < 256 := hv
  by_cases m0 : m = 0
  · subst m0
    by_cases c1 : v < 32 ∨ 126 < v
    · exact fo_ct hg w4 h4 e1 e2 e3 e4 e5 e6 e7 e8 e9 e11 e12 e13 e14 e15 e16 ev hv c1
    · exact fo_pr hg w4 h4 e1 e2 e3 e4 e5 e6 e7 e8 e9 e11 e12 e13 e14 e15 e16 ev (by omega) (by omega)
  · by_cases m1 : m = 1
    · subst m1
      exact fo_1 hg w4 h4 e1 e2 e3 e4 e5 e6 e7 e8 e9 e11 e12 e13 e14 e15 e16 ev hv
    · have m2 : m = 2 := by omega
      subst m2
      exact fo_2 hg w4 h4 e1 e2 e3 e4 e5 e6 e7 e8 e9 e11 e12 e13 e14 e15 e16 ev hv
