section NX
variable {f_hostWidth f_hostHeight f_root f_focusedPane f_liveCount : Int32} {a_parent a_first a_second a_orientation a_share a_leastWidth a_leastHeight a_rectX a_rectY a_rectW a_rectH a_order a_live a_screenWidth a_screenHeight a_cursorRow a_cursorCol a_regionTop a_regionBottom a_parserMode a_paramOne a_paramTwo a_paramIndex a_cells : Nat → Int32} {f_count f_hostW f_hostH f_focus f_resW f_resH : Int32} {a_kind a_val a_tk a_tv b_live a_wasLive a_rx a_ry a_rw a_rh a_oldW a_oldH a_row a_col a_top a_bot a_mode a_p1 a_p2 a_k b_cells a_sx a_sy a_sw a_sh a_mw a_mh : Nat → Int32}
variable {c : Nat} {nd en po : Nat → Nat} {kd vl : Nat → Int32}
theorem yw_leaf {post : Int32 → Prop} {root : Int32} {pa fi se ori sr : Nat → Int32} {p : Nat} (T : tr_T c nd en po root pa fi se ori sr a_kind a_val) (hcount : f_count = nI c) (hp : p < c) (kp : a_kind p = 0) (K : post (nI p)) : wpY_leafIndex post (f_count, f_hostW, f_hostH, f_focus, f_resW, f_resH, a_kind, a_val, a_tk, a_tv, b_live, a_wasLive, a_rx, a_ry, a_rw, a_rh, a_oldW, a_oldH, a_row, a_col, a_top, a_bot, a_mode, a_p1, a_p2, a_k, b_cells, a_sx, a_sy, a_sw, a_sh, a_mw, a_mh) (nI (nd p)) := by
  subst hcount
  obtain ⟨P, T2, T3, T4, T5, T6, T7⟩ := id T
  have main : ∀ dd i, i + dd = p → wY_leafIndex_2 post (nI (nd p)) (nI c) f_hostW f_hostH f_focus f_resW f_resH a_kind a_val a_tk a_tv b_live a_wasLive a_rx a_ry a_rw a_rh a_oldW a_oldH a_row a_col a_top a_bot a_mode a_p1 a_p2 a_k b_cells a_sx a_sy a_sw a_sh a_mw a_mh (dd + 1) (nI i) := by
    intro dd
    induction dd with
    | zero =>
      intro i hi
      have e : i = p := by omega
      subst e
      have v16 : vp_in (nI i) 16 := vi_16 (by omega)
      refine br_f (nI_ge hp (by omega)) ⟨v16, ?_⟩
      rw [cg_16 (by omega)]
      exact br_t kp ⟨v16, br_t ((T6 i hp).2.2.2.1 kp).2 K⟩
    | succ dd ih =>
      intro i hi
      have ic : i < c := by omega
      have v16 : vp_in (nI i) 16 := vi_16 (by omega)
      have IH := ih (i + 1) (by omega)
      refine br_f (nI_ge ic (by omega)) ⟨v16, ?_⟩
      rw [cg_16 (by omega)]
      by_cases z : a_kind i = 0
      · obtain ⟨n8, nv⟩ := (T6 i ic).2.2.2.1 z
        have n8' := ((T6 p hp).2.2.2.1 kp).1
        refine br_t z ⟨v16, br_f ?_ (nm_r (nI_1 i) IH)⟩
        rw [nv]
        intro y
        have := tr_inj T ic hp ((nI_eq (by omega) (by omega)).mp y)
        omega
      · exact br_f z (nm_r (nI_1 i) IH)
  exact ⟨p + 1, main p 0 (by omega)⟩
theorem xw_fleaf {post : Int32 → Prop} {j d : Nat} (T : tr_T c nd en po f_root a_parent a_first a_second a_orientation a_share kd vl) (h1 : j + d < c) (h2 : kd (j + d) = 0) (h3 : ∀ t, t < d → kd (j + t) ≠ 0) (K : post (nI (nd (j + d)))) : wpX_firstLeaf post (f_hostWidth, f_hostHeight, f_root, f_focusedPane, f_liveCount, a_parent, a_first, a_second, a_orientation, a_share, a_leastWidth, a_leastHeight, a_rectX, a_rectY, a_rectW, a_rectH, a_order, a_live, a_screenWidth, a_screenHeight, a_cursorRow, a_cursorCol, a_regionTop, a_regionBottom, a_parserMode, a_paramOne, a_paramTwo, a_paramIndex, a_cells) (nI (nd j)) := by
  obtain ⟨P, T2, T3, T4, T5, T6, T7⟩ := id T
  have main : ∀ dd t, t + dd = d → wX_firstLeaf_4 post f_hostWidth f_hostHeight f_root f_focusedPane f_liveCount a_parent a_first a_second a_orientation a_share a_leastWidth a_leastHeight a_rectX a_rectY a_rectW a_rectH a_order a_live a_screenWidth a_screenHeight a_cursorRow a_cursorCol a_regionTop a_regionBottom a_parserMode a_paramOne a_paramTwo a_paramIndex a_cells (dd + 1) (nI (nd (j + t))) (nI t) := by
    intro dd
    induction dd with
    | zero =>
      intro t ht
      have e : t = d := by omega
      subst e
      obtain ⟨t1, t2, t3, t4, t5⟩ := T6 (j + t) h1
      refine br_f (nI_ge (b := 15) (by omega) (by omega)) ⟨vi_15 t1, ?_⟩
      rw [cg_15 t1, t3]
      exact br_t h2 K
    | succ dd ih =>
      intro t ht
      have IH := ih (t + 1) (by omega)
      obtain ⟨t1, t2, t3, t4, t5⟩ := T6 (j + t) (by omega)
      have z := h3 t (by omega)
      obtain ⟨u1, u2, u3, u4, u5, u6⟩ := t5 z
      refine br_f (nI_ge (b := 15) (by omega) (by omega)) ⟨vi_15 t1, ?_⟩
      rw [cg_15 t1, t3]
      exact br_f z ⟨vi_15 t1, nm_r u3 (nm_r (nI_1 t) IH)⟩
  exact ⟨d + 1, main d 0 (by omega)⟩
theorem xw_next {post : Int32 → SX → Prop} {p : Nat} (T : tr_T c nd en po f_root a_parent a_first a_second a_orientation a_share kd vl) (hp : p < c) (kp : kd p = 0) (hf : f_focusedPane = nI (nd p)) (K : ∀ n, fn_N c kd p n → post (nI (nd n)) (f_hostWidth, f_hostHeight, f_root, nI (nd n), f_liveCount, a_parent, a_first, a_second, a_orientation, a_share, a_leastWidth, a_leastHeight, a_rectX, a_rectY, a_rectW, a_rectH, a_order, a_live, a_screenWidth, a_screenHeight, a_cursorRow, a_cursorCol, a_regionTop, a_regionBottom, a_parserMode, a_paramOne, a_paramTwo, a_paramIndex, a_cells)) : wpX_focusNext post (f_hostWidth, f_hostHeight, f_root, f_focusedPane, f_liveCount, a_parent, a_first, a_second, a_orientation, a_share, a_leastWidth, a_leastHeight, a_rectX, a_rectY, a_rectW, a_rectH, a_order, a_live, a_screenWidth, a_screenHeight, a_cursorRow, a_cursorCol, a_regionTop, a_regionBottom, a_parserMode, a_paramOne, a_paramTwo, a_paramIndex, a_cells) := by
  subst hf
  obtain ⟨P, T2, T3, T4, T5, T6, T7⟩ := id T
  subst T3
  have p15 := (T6 p hp).1
  refine ⟨vi_15 p15, ?_⟩
  rw [cg_15 p15]
  refine nm_e ?_
  refine lp2 (fun n q i => wX_focusNext_14 post f_hostWidth f_hostHeight (nI (nd 0)) (nI (nd p)) f_liveCount a_parent a_first a_second a_orientation a_share a_leastWidth a_leastHeight a_rectX a_rectY a_rectW a_rectH a_order a_live a_screenWidth a_screenHeight a_cursorRow a_cursorCol a_regionTop a_regionBottom a_parserMode a_paramOne a_paramTwo a_paramIndex a_cells n (nI (nd q)) (a_parent (nd q)) (nI i)) (fun q i => q < c ∧ en q = p + 1 ∧ i + q ≤ p) (fun q i => q) ?_ p 0 ⟨hp, ps_lf P hp kp, by omega⟩
  intro n q i hI IH
  obtain ⟨i1, i2, i3⟩ := hI
  refine br_f (nI_ge (b := 15) (by omega) (by omega)) ?_
  rcases pu_w T i1 with ⟨q0, e⟩ | ⟨u, hu, hk, uq, e, u15, h⟩
  · rw [e]
    refine br_t rfl (br_t rfl ?_)
    have pc : p + 1 = c := by rw [q0, P.2.1] at i2; exact i2.symm
    obtain ⟨d, d1, d2, d3⟩ := fn_fl P P.1
    unfold wX_focusNext_68
    refine xw_fleaf (j := 0) (d := d) T d1 d2 d3 ?_
    rw [Nat.zero_add] at *
    exact K d (fn_b pc d1 d2 (fun t ht => by have := d3 t ht; rw [Nat.zero_add] at this; exact this))
  · rw [e]
    have nm := tr_m1 (n := nd u) (by omega)
    obtain ⟨a1, a2, a3, a4, a5, a6⟩ := ps_nd P hu hk
    obtain ⟨w1, w2, w3, w4, w5, w6⟩ := (T6 u hu).2.2.2.2 hk
    refine br_f nm ⟨vi_15 u15, ?_⟩
    rw [cg_15 u15, w4]
    rcases h with ⟨hq, _⟩ | ⟨hq, _⟩
    · have ne : ¬ nI (nd (en (u + 1))) = nI (nd q) := by
        intro y
        have b1 := (T6 _ a6).1
        have b2 := (T6 _ i1).1
        have := tr_inj T a6 i1 ((nI_eq (by omega) (by omega)).mp y)
        omega
      refine br_f ne (br_f nm ⟨vi_15 u15, ?_⟩)
      rw [cg_15 u15, w4]
      have ep : en (u + 1) = p + 1 := by rw [← hq]; exact i2
      rw [ep] at a6 ⊢
      obtain ⟨d, d1, d2, d3⟩ := fn_fl P a6
      unfold wX_focusNext_68
      exact xw_fleaf T d1 d2 d3 (K _ (fn_a d1 d2 d3))
    · refine br_t (by rw [hq]) ⟨vi_15 u15, ?_⟩
      refine nm_e (nm_r (nI_1 i) (IH u (i + 1) ⟨hu, ?_, by omega⟩ uq))
      rw [← a4, ← hq]; exact i2
theorem yw_next {post : Int32 → SY → Prop} {root : Int32} {pa fi se ori sr : Nat → Int32} {p n : Nat} (T : tr_T c nd en po root pa fi se ori sr a_kind a_val) (hcount : f_count = nI c) (hf : f_focus = nI (nd p)) (hp : p < c) (kp : a_kind p = 0) (F : fn_N c a_kind p n) (K : post (nI (nd n)) (f_count, f_hostW, f_hostH, nI (nd n), f_resW, f_resH, a_kind, a_val, a_tk, a_tv, b_live, a_wasLive, a_rx, a_ry, a_rw, a_rh, a_oldW, a_oldH, a_row, a_col, a_top, a_bot, a_mode, a_p1, a_p2, a_k, b_cells, a_sx, a_sy, a_sw, a_sh, a_mw, a_mh)) : wpY_focusNext post (f_count, f_hostW, f_hostH, f_focus, f_resW, f_resH, a_kind, a_val, a_tk, a_tv, b_live, a_wasLive, a_rx, a_ry, a_rw, a_rh, a_oldW, a_oldH, a_row, a_col, a_top, a_bot, a_mode, a_p1, a_p2, a_k, b_cells, a_sx, a_sy, a_sw, a_sh, a_mw, a_mh) := by
  subst hcount hf
  obtain ⟨P, T2, T3, T4, T5, T6, T7⟩ := id T
  obtain ⟨nc, kn, F⟩ := F
  have n8 := ((T6 n nc).2.2.2.1 kn).1
  have nv := ((T6 n nc).2.2.2.1 kn).2
  have pos : (0 : Int32) ≤ nI (nd n) := nI_pos' (by omega)
  have m1 : ¬ (0 : Int32) ≤ -1 := by decide
  have done51 : ∀ dd j, j + dd = c → wY_focusNext_51 post (nI c) f_hostW f_hostH (nI (nd p)) f_resW f_resH a_kind a_val a_tk a_tv b_live a_wasLive a_rx a_ry a_rw a_rh a_oldW a_oldH a_row a_col a_top a_bot a_mode a_p1 a_p2 a_k b_cells a_sx a_sy a_sw a_sh a_mw a_mh (dd + 1) (nI (nd n)) (nI j) := by
    intro dd
    induction dd with
    | zero =>
      intro j hj
      exact br_t (nI_le (by omega) (by omega)) (br_f (nI_pos (by omega)) K)
    | succ dd ih =>
      intro j hj
      have IH := ih (j + 1) (by omega)
      have v16 : vp_in (nI j) 16 := vi_16 (by omega)
      refine br_f (nI_ge (by omega) (by omega)) ⟨v16, ?_⟩
      exact br_c (fun _ => br_t pos (nm_r (nI_1 j) IH)) (fun _ => nm_r (nI_1 j) IH)
  have done15 : ∀ dd j, j + dd = c → wY_focusNext_15 post (nI c) f_hostW f_hostH (nI (nd p)) f_resW f_resH a_kind a_val a_tk a_tv b_live a_wasLive a_rx a_ry a_rw a_rh a_oldW a_oldH a_row a_col a_top a_bot a_mode a_p1 a_p2 a_k b_cells a_sx a_sy a_sw a_sh a_mw a_mh (dd + 1) (nI (nd n)) (nI j) := by
    intro dd
    induction dd with
    | zero =>
      intro j hj
      exact br_t (nI_le (by omega) (by omega)) ⟨c + 1, done51 c 0 (by omega)⟩
    | succ dd ih =>
      intro j hj
      have IH := ih (j + 1) (by omega)
      have v16 : vp_in (nI j) 16 := vi_16 (by omega)
      refine br_f (nI_ge (by omega) (by omega)) ⟨v16, ?_⟩
      exact br_c (fun _ => br_t pos (nm_r (nI_1 j) IH)) (fun _ => nm_r (nI_1 j) IH)
  unfold wpY_focusNext
  refine yw_leaf T rfl hp kp (nm_r (nI_1 p) ?_)
  rcases F with ⟨pn, bt⟩ | ⟨no, bt⟩
  · have seek : ∀ dd j, j + dd = n → p < j → wY_focusNext_15 post (nI c) f_hostW f_hostH (nI (nd p)) f_resW f_resH a_kind a_val a_tk a_tv b_live a_wasLive a_rx a_ry a_rw a_rh a_oldW a_oldH a_row a_col a_top a_bot a_mode a_p1 a_p2 a_k b_cells a_sx a_sy a_sw a_sh a_mw a_mh ((c - n) + dd + 1) (-1) (nI j) := by
      intro dd
      induction dd with
      | zero =>
        intro j hj pj
        have e : j = n := by omega
        subst e
        have v16 : vp_in (nI j) 16 := vi_16 (by omega)
        obtain ⟨x, hx⟩ : ∃ x, c - j = x + 1 := ⟨c - j - 1, by omega⟩
        rw [hx]
        refine br_f (nI_ge (by omega) (by omega)) ⟨v16, ?_⟩
        rw [cg_16 (by omega)]
        exact br_t kn (br_f m1 ⟨v16, nm_r nv (nm_r (nI_1 j) (done15 x (j + 1) (by omega)))⟩)
      | succ dd ih =>
        intro j hj pj
        have IH := ih (j + 1) (by omega) (by omega)
        have v16 : vp_in (nI j) 16 := vi_16 (by omega)
        refine br_f (nI_ge (by omega) (by omega)) ⟨v16, ?_⟩
        rw [cg_16 (by omega)]
        exact br_f (bt j pj (by omega)) (nm_r (nI_1 j) IH)
    exact ⟨_, seek (n - (p + 1)) (p + 1) (by omega) (by omega)⟩
  · have seek : ∀ dd j, j + dd = n → wY_focusNext_51 post (nI c) f_hostW f_hostH (nI (nd p)) f_resW f_resH a_kind a_val a_tk a_tv b_live a_wasLive a_rx a_ry a_rw a_rh a_oldW a_oldH a_row a_col a_top a_bot a_mode a_p1 a_p2 a_k b_cells a_sx a_sy a_sw a_sh a_mw a_mh ((c - n) + dd + 1) (-1) (nI j) := by
      intro dd
      induction dd with
      | zero =>
        intro j hj
        have e : j = n := by omega
        subst e
        have v16 : vp_in (nI j) 16 := vi_16 (by omega)
        obtain ⟨x, hx⟩ : ∃ x, c - j = x + 1 := ⟨c - j - 1, by omega⟩
        rw [hx]
        refine br_f (nI_ge (by omega) (by omega)) ⟨v16, ?_⟩
        rw [cg_16 (by omega)]
        exact br_t kn (br_f m1 ⟨v16, nm_r nv (nm_r (nI_1 j) (done51 x (j + 1) (by omega)))⟩)
      | succ dd ih =>
        intro j hj
        have IH := ih (j + 1) (by omega)
        have v16 : vp_in (nI j) 16 := vi_16 (by omega)
        refine br_f (nI_ge (by omega) (by omega)) ⟨v16, ?_⟩
        rw [cg_16 (by omega)]
        exact br_f (bt j (by omega)) (nm_r (nI_1 j) IH)
    have skip : ∀ dd j, j + dd = c → p < j → wY_focusNext_15 post (nI c) f_hostW f_hostH (nI (nd p)) f_resW f_resH a_kind a_val a_tk a_tv b_live a_wasLive a_rx a_ry a_rw a_rh a_oldW a_oldH a_row a_col a_top a_bot a_mode a_p1 a_p2 a_k b_cells a_sx a_sy a_sw a_sh a_mw a_mh (dd + 1) (-1) (nI j) := by
      intro dd
      induction dd with
      | zero =>
        intro j hj pj
        exact br_t (nI_le (by omega) (by omega)) ⟨_, seek n 0 (by omega)⟩
      | succ dd ih =>
        intro j hj pj
        have IH := ih (j + 1) (by omega) (by omega)
        have v16 : vp_in (nI j) 16 := vi_16 (by omega)
        refine br_f (nI_ge (by omega) (by omega)) ⟨v16, ?_⟩
        rw [cg_16 (by omega)]
        exact br_f (no j pj (by omega)) (nm_r (nI_1 j) IH)
    exact ⟨_, skip (c - (p + 1)) (p + 1) (by omega) (by omega)⟩
end NX
theorem i_vc_focusNext {k : Nat} {u : SX} {v : SY} (I : i_Rel k u v) (hk : k + 4 ≤ 2050) : wpX_focusNext (fun r u' => wpY_focusNext (fun r' v' => r' = r ∧ i_Rel (k + 4) u' v') v) u := by
  obtain ⟨f_hostWidth, f_hostHeight, f_root, f_focusedPane, f_liveCount, a_parent, a_first, a_second, a_orientation, a_share, a_leastWidth, a_leastHeight, a_rectX, a_rectY, a_rectW, a_rectH, a_order, a_live, a_screenWidth, a_screenHeight, a_cursorRow, a_cursorCol, a_regionTop, a_regionBottom, a_parserMode, a_paramOne, a_paramTwo, a_paramIndex, a_cells⟩ := u
  obtain ⟨f_count, f_hostW, f_hostH, f_focus, f_resW, f_resH, a_kind, a_val, a_tk, a_tv, b_live, a_wasLive, a_rx, a_ry, a_rw, a_rh, a_oldW, a_oldH, a_row, a_col, a_top, a_bot, a_mode, a_p1, a_p2, a_k, b_cells, a_sx, a_sy, a_sw, a_sh, a_mw, a_mh⟩ := v
  obtain ⟨c, nd, en, po, w0, h0, f, J⟩ := I
  obtain ⟨rfl, rfl, rfl, rfl, rfl, j6, rfl, rfl, j9, j10, rfl, rfl, rfl, rfl, rfl, rfl, rfl, rfl, rfl, G, Pn⟩ := J
  obtain ⟨T, L, E, g1, g2, g3, g4, g5, g6, g7⟩ := id G
  obtain ⟨p, hp, kp, ep⟩ := rl_leaf G j6 j9
  subst ep
  refine xw_next T hp kp rfl (fun n F => yw_next T rfl rfl hp kp F ⟨rfl, c, nd, en, po, w0, h0, nd n, ?_⟩)
  have n8 := ((T.2.2.2.2.2.1 n F.1).2.2.2.1 F.2.1).1
  exact ⟨rfl, rfl, rfl, rfl, rfl, n8, rfl, rfl, (g7 _ n8).2.mpr ⟨n, F.1, rfl⟩, j10, rfl, rfl, rfl, rfl, rfl, rfl, rfl, rfl, rfl, G, Pn⟩
