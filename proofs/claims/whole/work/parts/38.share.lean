section SH
variable {f_hostWidth f_hostHeight f_root f_focusedPane f_liveCount : Int32} {a_parent a_first a_second a_orientation a_share a_leastWidth a_leastHeight a_rectX a_rectY a_rectW a_rectH a_order a_live a_screenWidth a_screenHeight a_cursorRow a_cursorCol a_regionTop a_regionBottom a_parserMode a_paramOne a_paramTwo a_paramIndex a_cells : Nat → Int32} {f_count f_hostW f_hostH f_focus f_resW f_resH : Int32} {a_kind a_val a_tk a_tv b_live a_wasLive a_rx a_ry a_rw a_rh a_oldW a_oldH a_row a_col a_top a_bot a_mode a_p1 a_p2 a_k b_cells a_sx a_sy a_sw a_sh a_mw a_mh : Nat → Int32}
variable {c : Nat} {nd en po : Nat → Nat} {kd vl : Nat → Int32}
theorem xw_climb {post : Int32 → SX → Prop} {p : Nat} {o pc : Int32} (T : tr_T c nd en po f_root a_parent a_first a_second a_orientation a_share kd vl) (hp : p < c) (kp : kd p = 0) (ho : o ≠ 0) (hf : f_focusedPane = nI (nd p)) (K0 : an_0 kd en o p → post 0 (f_hostWidth, f_hostHeight, f_root, f_focusedPane, f_liveCount, a_parent, a_first, a_second, a_orientation, a_share, a_leastWidth, a_leastHeight, a_rectX, a_rectY, a_rectW, a_rectH, a_order, a_live, a_screenWidth, a_screenHeight, a_cursorRow, a_cursorCol, a_regionTop, a_regionBottom, a_parserMode, a_paramOne, a_paramTwo, a_paramIndex, a_cells)) (K1 : ∀ b, an_B kd en o p b → wX_setShare_60 post pc (nI (nd b)) f_hostWidth f_hostHeight f_root f_focusedPane f_liveCount a_parent a_first a_second a_orientation a_share a_leastWidth a_leastHeight a_rectX a_rectY a_rectW a_rectH a_order a_live a_screenWidth a_screenHeight a_cursorRow a_cursorCol a_regionTop a_regionBottom a_parserMode a_paramOne a_paramTwo a_paramIndex a_cells) : wX_setShare_12 post o pc f_hostWidth f_hostHeight f_root f_focusedPane f_liveCount a_parent a_first a_second a_orientation a_share a_leastWidth a_leastHeight a_rectX a_rectY a_rectW a_rectH a_order a_live a_screenWidth a_screenHeight a_cursorRow a_cursorCol a_regionTop a_regionBottom a_parserMode a_paramOne a_paramTwo a_paramIndex a_cells := by
  subst hf
  obtain ⟨P, T2, T3, T4, T5, T6, T7⟩ := id T
  have p15 := (T6 p hp).1
  refine ⟨vi_15 p15, ?_⟩
  rw [cg_15 p15]
  refine nm_e ?_
  have pe := (P.2.2 p hp).1
  refine lp2 (fun n q i => wX_setShare_25 post o pc f_hostWidth f_hostHeight f_root (nI (nd p)) f_liveCount a_parent a_first a_second a_orientation a_share a_leastWidth a_leastHeight a_rectX a_rectY a_rectW a_rectH a_order a_live a_screenWidth a_screenHeight a_cursorRow a_cursorCol a_regionTop a_regionBottom a_parserMode a_paramOne a_paramTwo a_paramIndex a_cells n (a_parent (nd q)) (nI i)) (fun q i => q < c ∧ an_I kd en o p q ∧ i + q ≤ p) (fun q i => q) ?_ p 0 ⟨hp, ⟨Nat.le_refl _, pe, fun j h1 h2 => by omega⟩, by omega⟩
  intro n q i hI IH
  obtain ⟨i1, i2, i3⟩ := hI
  refine br_f (nI_ge (b := 15) (by omega) (by omega)) ?_
  rcases pu_w T i1 with ⟨q0, e⟩ | ⟨u, hu, hk, uq, e, u15, h⟩
  · rw [e]
    subst q0
    exact br_t rfl (br_t rfl (K0 (fun j hj => i2.2.2 j (Nat.zero_le _) hj)))
  · rw [e]
    have nm := tr_m1 (n := nd u) (by omega)
    have ch : ps_ch kd en c u q := ⟨hu, hk, by rcases h with h | h; exact Or.inl h.1; exact Or.inr h.1⟩
    refine br_f nm ⟨vi_15 u15, ?_⟩
    rw [cg_15 u15, (T6 u hu).2.2.1]
    by_cases z : kd u = o
    · exact br_t z (K1 u (an_hit P i2 ch z))
    · exact br_f z ⟨vi_15 u15, nm_e (nm_r (nI_1 i) (IH u (i + 1) ⟨hu, an_up P i2 ch z, by omega⟩ uq))⟩
/-- the greatest of the places below j that stand above p and are of orientation o -/
def sh_I (kd : Nat → Int32) (en : Nat → Nat) (o : Int32) (p j : Nat) (x : Int32) : Prop :=
  (x = -1 ∧ ∀ i, i < j → ¬ (kd i = o ∧ p < en i)) ∨ ∃ b, b < j ∧ x = nI b ∧ kd b = o ∧ p < en b ∧ ∀ i, b < i → i < j → ¬ (kd i = o ∧ p < en i)
theorem sh_skip {kd : Nat → Int32} {en : Nat → Nat} {o : Int32} {p j : Nat} {x : Int32} (h : sh_I kd en o p j x) (n : ¬ (kd j = o ∧ p < en j)) : sh_I kd en o p (j + 1) x := by
  rcases h with ⟨h1, h2⟩ | ⟨b, h1, h2, h3, h4, h5⟩
  · refine Or.inl ⟨h1, fun i hi => ?_⟩
    by_cases z : i = j
    · rw [z]; exact n
    · exact h2 i (by omega)
  · refine Or.inr ⟨b, by omega, h2, h3, h4, fun i g1 g2 => ?_⟩
    by_cases z : i = j
    · rw [z]; exact n
    · exact h5 i g1 (by omega)
theorem yw_climb {post : Int32 → SY → Prop} {root : Int32} {pa fi se ori sr : Nat → Int32} {p : Nat} {o pc : Int32} (T : tr_T c nd en po root pa fi se ori sr a_kind a_val) (hcount : f_count = nI c) (hf : f_focus = nI (nd p)) (hp : p < c) (kp : a_kind p = 0) (K0 : an_0 a_kind en o p → post 0 (f_count, f_hostW, f_hostH, f_focus, f_resW, f_resH, a_kind, a_val, a_tk, a_tv, b_live, a_wasLive, a_rx, a_ry, a_rw, a_rh, a_oldW, a_oldH, a_row, a_col, a_top, a_bot, a_mode, a_p1, a_p2, a_k, b_cells, a_sx, a_sy, a_sw, a_sh, a_mw, a_mh))
    (K1 : ∀ b, an_B a_kind en o p b → ∀ x, x = nI b → wpY_clamp (fun r_38 => (vp_in x 16 ∧ ∀ a_val_73 : Nat → Int32, a_val_73 = upd a_val x.toNatClampNeg r_38 → wpY_saveOld (fun u => match u with | (e1, e2, e3, e4, e5, e6, e7, e8, e9, e10, e11, e12, e13, e14, e15, e16, e17, e18, e19, e20, e21, e22, e23, e24, e25, e26, e27, e28, e29, e30, e31, e32, e33) => (wpY_finish (fun u => match u with | (d1, d2, d3, d4, d5, d6, d7, d8, d9, d10, d11, d12, d13, d14, d15, d16, d17, d18, d19, d20, d21, d22, d23, d24, d25, d26, d27, d28, d29, d30, d31, d32, d33) => (post 1 (d1, d2, d3, d4, d5, d6, d7, d8, d9, d10, d11, d12, d13, d14, d15, d16, d17, d18, d19, d20, d21, d22, d23, d24, d25, d26, d27, d28, d29, d30, d31, d32, d33))) (e1, e2, e3, e4, e5, e6, e7, e8, e9, e10, e11, e12, e13, e14, e15, e16, e17, e18, e19, e20, e21, e22, e23, e24, e25, e26, e27, e28, e29, e30, e31, e32, e33))) (f_count, f_hostW, f_hostH, f_focus, f_resW, f_resH, a_kind, a_val_73, a_tk, a_tv, b_live, a_wasLive, a_rx, a_ry, a_rw, a_rh, a_oldW, a_oldH, a_row, a_col, a_top, a_bot, a_mode, a_p1, a_p2, a_k, b_cells, a_sx, a_sy, a_sw, a_sh, a_mw, a_mh))) (f_count, f_hostW, f_hostH, f_focus, f_resW, f_resH, a_kind, a_val, a_tk, a_tv, b_live, a_wasLive, a_rx, a_ry, a_rw, a_rh, a_oldW, a_oldH, a_row, a_col, a_top, a_bot, a_mode, a_p1, a_p2, a_k, b_cells, a_sx, a_sy, a_sw, a_sh, a_mw, a_mh) pc 1 99) : wY_setShare_12 post o pc f_count f_hostW f_hostH f_focus f_resW f_resH a_kind a_val a_tk a_tv b_live a_wasLive a_rx a_ry a_rw a_rh a_oldW a_oldH a_row a_col a_top a_bot a_mode a_p1 a_p2 a_k b_cells a_sx a_sy a_sw a_sh a_mw a_mh := by
  subst hcount hf
  obtain ⟨P, T2, T3, T4, T5, T6, T7⟩ := id T
  have main : ∀ dd j x, j + dd = p → sh_I a_kind en o p j x → wY_setShare_27 post o pc (nI p) (nI c) f_hostW f_hostH (nI (nd p)) f_resW f_resH a_kind a_val a_tk a_tv b_live a_wasLive a_rx a_ry a_rw a_rh a_oldW a_oldH a_row a_col a_top a_bot a_mode a_p1 a_p2 a_k b_cells a_sx a_sy a_sw a_sh a_mw a_mh (dd + 1) x (nI j) := by
    intro dd
    induction dd with
    | zero =>
      intro j x hj hI
      have e : j = p := by omega
      subst e
      refine br_t (nI_le (Nat.le_refl _) (by omega)) ?_
      rcases hI with ⟨h1, h2⟩ | ⟨b, h1, h2, h3, h4, h5⟩
      · subst h1
        exact br_f (by decide) (K0 h2)
      · subst h2
        exact br_t (nI_pos' (by omega)) (K1 b ⟨h1, h3, h4, h5⟩ _ rfl)
    | succ dd ih =>
      intro j x hj hI
      have jc : j < c := by omega
      have v16 : vp_in (nI j) 16 := vi_16 (by omega)
      refine br_f (nI_ge (by omega) (by omega)) ⟨v16, ?_⟩
      rw [cg_16 (by omega)]
      by_cases z : a_kind j = o
      · have ejc := (P.2.2 j jc).2.1
        refine br_t z (yw_subEnd P T2 rfl jc ?_)
        refine pk_le (en j) p (fun y => nm_r (nI_1 j) (ih (j + 1) x (by omega) (sh_skip hI (fun h => by omega)))) (fun y => nm_r (nI_1 j) (ih (j + 1) (nI j) (by omega) (Or.inr ⟨j, by omega, rfl, z, y, fun i g1 g2 => by omega⟩)))
      · exact br_f z (nm_r (nI_1 j) (ih (j + 1) x (by omega) (sh_skip hI (fun h => z h.1))))
  unfold wY_setShare_12
  exact yw_leaf T rfl hp kp ⟨p + 1, main p 0 (-1) (by omega) (Or.inl ⟨rfl, fun i hi => by omega⟩)⟩
end SH
section SM
variable {f_hostWidth f_hostHeight f_root f_focusedPane f_liveCount : Int32} {a_parent a_first a_second a_orientation a_share a_leastWidth a_leastHeight a_rectX a_rectY a_rectW a_rectH a_order a_live a_screenWidth a_screenHeight a_cursorRow a_cursorCol a_regionTop a_regionBottom a_parserMode a_paramOne a_paramTwo a_paramIndex a_cells : Nat → Int32} {f_count f_hostW f_hostH f_focus f_resW f_resH : Int32} {a_kind a_val a_tk a_tv b_live a_wasLive a_rx a_ry a_rw a_rh a_oldW a_oldH a_row a_col a_top a_bot a_mode a_p1 a_p2 a_k b_cells a_sx a_sy a_sw a_sh a_mw a_mh : Nat → Int32}
theorem sh_main {k : Nat} {v1 v2 : Int32} {c : Nat} {nd en po : Nat → Nat} {w0 h0 f : Nat} (J : rl_J (nI w0) (nI h0) f_root (nI f) f_liveCount a_parent a_first a_second a_orientation a_share a_leastWidth a_leastHeight a_rectX a_rectY a_rectW a_rectH a_order a_live a_screenWidth a_screenHeight a_cursorRow a_cursorCol a_regionTop a_regionBottom a_parserMode a_paramOne a_paramTwo a_paramIndex a_cells (nI c) (nI w0) (nI h0) (nI f) f_resW f_resH a_kind a_val a_tk a_tv a_live a_wasLive a_rx a_ry a_rw a_rh a_oldW a_oldH a_cursorRow a_cursorCol a_regionTop a_regionBottom a_parserMode a_paramOne a_paramTwo a_paramIndex b_cells a_sx a_sy a_sw a_sh a_mw a_mh c nd en po w0 h0 f) (hv : v1 = 1 ∨ v1 = 2) :
    wX_setShare_12 (fun r u' => wpY_setShare (fun r' v' => r' = r ∧ i_Rel (k + 4) u' v') (nI c, nI w0, nI h0, nI f, f_resW, f_resH, a_kind, a_val, a_tk, a_tv, a_live, a_wasLive, a_rx, a_ry, a_rw, a_rh, a_oldW, a_oldH, a_cursorRow, a_cursorCol, a_regionTop, a_regionBottom, a_parserMode, a_paramOne, a_paramTwo, a_paramIndex, b_cells, a_sx, a_sy, a_sw, a_sh, a_mw, a_mh) v1 v2) v1 v2 (nI w0) (nI h0) f_root (nI f) f_liveCount a_parent a_first a_second a_orientation a_share a_leastWidth a_leastHeight a_rectX a_rectY a_rectW a_rectH a_order a_live a_screenWidth a_screenHeight a_cursorRow a_cursorCol a_regionTop a_regionBottom a_parserMode a_paramOne a_paramTwo a_paramIndex a_cells := by
  have J0 := J
  obtain ⟨_, _, _, _, _, j6, _, _, j9, j10, _, _, _, _, _, _, _, _, _, G, Pn⟩ := J
  obtain ⟨T, L, E, g1, g2, g3, g4, g5, g6, g7⟩ := id G
  obtain ⟨P, T2, T3, T4, T5, T6, T7⟩ := id T
  obtain ⟨p, hp, kp, ep⟩ := rl_leaf G j6 j9
  have hv0 : v1 ≠ 0 := by rcases hv with h | h <;> subst h <;> decide
  have Y0 : ∀ post : Int32 → SY → Prop, wY_setShare_12 post v1 v2 (nI c) (nI w0) (nI h0) (nI f) f_resW f_resH a_kind a_val a_tk a_tv a_live a_wasLive a_rx a_ry a_rw a_rh a_oldW a_oldH a_cursorRow a_cursorCol a_regionTop a_regionBottom a_parserMode a_paramOne a_paramTwo a_paramIndex b_cells a_sx a_sy a_sw a_sh a_mw a_mh → wpY_setShare post (nI c, nI w0, nI h0, nI f, f_resW, f_resH, a_kind, a_val, a_tk, a_tv, a_live, a_wasLive, a_rx, a_ry, a_rw, a_rh, a_oldW, a_oldH, a_cursorRow, a_cursorCol, a_regionTop, a_regionBottom, a_parserMode, a_paramOne, a_paramTwo, a_paramIndex, b_cells, a_sx, a_sy, a_sw, a_sh, a_mw, a_mh) v1 v2 := by
    intro post K
    rcases hv with h | h
    · exact br_t h K
    · by_cases y : v1 = 1
      · exact br_t y K
      · exact br_f y (br_t h K)
  obtain ⟨s, es, s1, s2⟩ := la_clN v2 (a := 1) (b := 99) (by omega) (by omega)
  have es' : la_cl v2 1 99 = nI s := es
  refine xw_climb T hp kp hv0 (by rw [ep]) (fun N0 => ?_) (fun b B => ?_)
  · exact Y0 _ (yw_climb T rfl (by rw [ep]) hp kp (fun _ => ⟨rfl, c, nd, en, po, w0, h0, f, J0⟩) (fun b' B' => absurd ⟨B'.2.1, B'.2.2.1⟩ (N0 b' B'.1)))
  · have bc : b < c := by have := B.1; omega
    have bk : a_kind b ≠ 0 := by rw [B.2.1]; exact hv0
    have b15 := (T6 b bc).1
    refine br_f (tr_m1 (by omega)) (xw_clamp ?_)
    rw [es']
    have T' := tr_share T bc bk s1 s2
    refine ⟨vi_15 b15, nm_r (e' := upd a_share (nd b) (nI s)) (by rw [cg_15 b15]) (xw_layOut T' (fun lw lh rx ry rw rh ord L' E' => ?_))⟩
    have G' : rl_G c nd en po w0 h0 f_root a_parent a_first a_second a_orientation (upd a_share (nd b) (nI s)) lw lh rx ry rw rh a_kind (upd a_val b (nI s)) a_live :=
      ⟨T', L', E', g1, g2, g3, g4, rl_m0 P T5 L L' g5, rl_n0 P T5 L L' g6, g7⟩
    have F := rl_F (dv := a_live) G' (fun g hg hl => ⟨hl, hl⟩) Pn
    refine xw_fits F (Y0 _ (yw_climb T rfl (by rw [ep]) hp kp (fun n0 => absurd ⟨B.2.1, B.2.2.1⟩ (n0 b B.1)) (fun b' B' x hx => ?_)))
    have eb := an_un B' B
    subst eb
    subst hx
    refine yw_clamp _ ?_
    rw [es']
    refine ⟨vi_16 (by omega), nm_r (e' := upd a_val b' (nI s)) (by rw [cg_16 (by omega)]) (yw_save (fun p hp => (g7 p hp).1) (fun wl ow oh hs => ?_))⟩
    refine yw_finish (dv := a_live) P T'.2.2.2.2.1 T2 rfl (rl_hnd T') (rl_ND T') L' E' (fun g hg => by rw [(hs g hg).1]; exact ⟨fun q => q.1, fun q => ⟨q, q⟩⟩) (fun g hg hl => rl_leaf G' hg hl) F (fun g hg hl => ?_) (fun rW rH yrx yry yrw yrh sx sy sw' sh' mw mh RE => ⟨rfl, c, nd, en, po, w0, h0, f, ?_⟩)
    · obtain ⟨a1, a2, a3, a4, a5, a6, _⟩ := Pn g hg hl
      exact ⟨(hs g hg).2.1.trans (a3.trans a5.symm), (hs g hg).2.2.trans (a4.trans a6.symm)⟩
    · exact ⟨rfl, rfl, rfl, rfl, rfl, j6, rfl, rfl, j9, j10, rfl, rfl, rfl, rfl, rfl, rfl, rfl, rfl, rfl, G', rl_fin G' (fun g hg hl => hl) Pn F RE⟩
end SM
theorem i_vc_setShare {k : Nat} {u : SX} {v : SY} (I : i_Rel k u v) (hk : k + 4 ≤ 2050) (v1 : Int32) (v2 : Int32) : wpX_setShare (fun r u' => wpY_setShare (fun r' v' => r' = r ∧ i_Rel (k + 4) u' v') v v1 v2) u v1 v2 := by
  obtain ⟨f_hostWidth, f_hostHeight, f_root, f_focusedPane, f_liveCount, a_parent, a_first, a_second, a_orientation, a_share, a_leastWidth, a_leastHeight, a_rectX, a_rectY, a_rectW, a_rectH, a_order, a_live, a_screenWidth, a_screenHeight, a_cursorRow, a_cursorCol, a_regionTop, a_regionBottom, a_parserMode, a_paramOne, a_paramTwo, a_paramIndex, a_cells⟩ := u
  obtain ⟨f_count, f_hostW, f_hostH, f_focus, f_resW, f_resH, a_kind, a_val, a_tk, a_tv, b_live, a_wasLive, a_rx, a_ry, a_rw, a_rh, a_oldW, a_oldH, a_row, a_col, a_top, a_bot, a_mode, a_p1, a_p2, a_k, b_cells, a_sx, a_sy, a_sw, a_sh, a_mw, a_mh⟩ := v
  obtain ⟨c, nd, en, po, w0, h0, f, J⟩ := I
  have J0 := J
  obtain ⟨rfl, rfl, rfl, rfl, rfl, j6, rfl, rfl, j9, j10, rfl, rfl, rfl, rfl, rfl, rfl, rfl, rfl, rfl, G, Pn⟩ := J
  by_cases h1 : v1 = 1
  · exact br_t h1 (sh_main J0 (Or.inl h1))
  · by_cases h2 : v1 = 2
    · exact br_f h1 (br_t h2 (sh_main J0 (Or.inr h2)))
    · exact br_f h1 (br_f h2 (br_f h1 (br_f h2 ⟨rfl, c, nd, en, po, w0, h0, f, J0⟩)))
