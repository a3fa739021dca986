theorem i_vc_paneChar {k : Nat} {u : SX} {v : SY} (I : i_Rel k u v) (hk : k + 4 ≤ 2050) (v1 : Int32) (v2 : Int32) (v3 : Int32) : wpX_paneChar (fun r => wpY_paneChar (fun r' => r' = r ∧ i_Rel (k + 4) u v) v v1 v2 v3) u v1 v2 v3 := by
  obtain ⟨f_hostWidth, f_hostHeight, f_root, f_focusedPane, f_liveCount, a_parent, a_first, a_second, a_orientation, a_share, a_leastWidth, a_leastHeight, a_rectX, a_rectY, a_rectW, a_rectH, a_order, a_live, a_screenWidth, a_screenHeight, a_cursorRow, a_cursorCol, a_regionTop, a_regionBottom, a_parserMode, a_paramOne, a_paramTwo, a_paramIndex, a_cells⟩ := u
  obtain ⟨f_count, f_hostW, f_hostH, f_focus, f_resW, f_resH, a_kind, a_val, a_tk, a_tv, b_live, a_wasLive, a_rx, a_ry, a_rw, a_rh, a_oldW, a_oldH, a_row, a_col, a_top, a_bot, a_mode, a_p1, a_p2, a_k, b_cells, a_sx, a_sy, a_sw, a_sh, a_mw, a_mh⟩ := v
  have I0 := I
  obtain ⟨c, nd, en, po, w0, h0, f, J⟩ := I
  obtain ⟨rfl, rfl, rfl, rfl, rfl, j6, rfl, rfl, j9, j10, rfl, rfl, rfl, rfl, rfl, rfl, rfl, rfl, rfl, G, Pn⟩ := J
  rcases pd_or a_live v1 with D | ⟨g, hg, e, hl⟩
  · unfold wpX_paneChar wpY_paneChar
    exact xw_dead D (br_t rfl (yw_dead D (br_t rfl ⟨rfl, I0⟩)))
  · subst e
    obtain ⟨r, hX, hY, _⟩ := pc_val hg hl rfl (Pn g hg) v2 v3
    exact hX _ (hY _ ⟨rfl, I0⟩)
theorem ho_in {p q : Int32} {w0 h0 : Nat} (hw : w0 ≤ 24) (hh : h0 ≤ 12) (o : ¬ (p < 0 ∨ nI h0 ≤ p ∨ q < 0 ∨ ¬ q < nI w0)) : ∃ r s, p = nI r ∧ q = nI s ∧ r < h0 ∧ s < w0 := by
  have h1 : ¬ p < 0 := fun z => o (Or.inl z)
  have h2 : ¬ nI h0 ≤ p := fun z => o (Or.inr (Or.inl z))
  have h3 : ¬ q < 0 := fun z => o (Or.inr (Or.inr (Or.inl z)))
  have h4 : q < nI w0 := by
    by_cases z : q < nI w0
    · exact z
    · exact absurd (Or.inr (Or.inr (Or.inr z))) o
  obtain ⟨r, hr, rfl⟩ := nI_of h1
  obtain ⟨s, hs, rfl⟩ := nI_of h3
  rw [nI_leI (by omega) hr] at h2
  rw [nI_ltI hs (by omega)] at h4
  exact ⟨r, s, rfl, rfl, by omega, h4⟩
theorem i_vc_hostOwner {k : Nat} {u : SX} {v : SY} (I : i_Rel k u v) (hk : k + 4 ≤ 2050) (v1 : Int32) (v2 : Int32) : wpX_hostOwner (fun r => wpY_hostOwner (fun r' => r' = r ∧ i_Rel (k + 4) u v) v v1 v2) u v1 v2 := by
  obtain ⟨f_hostWidth, f_hostHeight, f_root, f_focusedPane, f_liveCount, a_parent, a_first, a_second, a_orientation, a_share, a_leastWidth, a_leastHeight, a_rectX, a_rectY, a_rectW, a_rectH, a_order, a_live, a_screenWidth, a_screenHeight, a_cursorRow, a_cursorCol, a_regionTop, a_regionBottom, a_parserMode, a_paramOne, a_paramTwo, a_paramIndex, a_cells⟩ := u
  obtain ⟨f_count, f_hostW, f_hostH, f_focus, f_resW, f_resH, a_kind, a_val, a_tk, a_tv, b_live, a_wasLive, a_rx, a_ry, a_rw, a_rh, a_oldW, a_oldH, a_row, a_col, a_top, a_bot, a_mode, a_p1, a_p2, a_k, b_cells, a_sx, a_sy, a_sw, a_sh, a_mw, a_mh⟩ := v
  have I0 := I
  obtain ⟨c, nd, en, po, w0, h0, f, J⟩ := I
  obtain ⟨rfl, rfl, rfl, rfl, rfl, j6, rfl, rfl, j9, j10, rfl, rfl, rfl, rfl, rfl, rfl, rfl, rfl, rfl, G, Pn⟩ := J
  by_cases o : v1 < 0 ∨ nI h0 ≤ v1 ∨ v2 < 0 ∨ ¬ v2 < nI w0
  · obtain ⟨hX, hY, _⟩ := ho_out rfl rfl rfl rfl o
    exact hX _ (hY _ ⟨rfl, I0⟩)
  · have h1 : ¬ v1 < 0 := fun z => o (Or.inl z)
    have h2 : ¬ nI h0 ≤ v1 := fun z => o (Or.inr (Or.inl z))
    have h3 : ¬ v2 < 0 := fun z => o (Or.inr (Or.inr (Or.inl z)))
    have h4 : v2 < nI w0 := by
      by_cases z : v2 < nI w0
      · exact z
      · exact absurd (Or.inr (Or.inr (Or.inr z))) o
    obtain ⟨r, hX, hY, _⟩ := ho_scan (p := v1) (q := v2) rfl Pn 8 0 (by omega)
    exact br_f h1 (br_f h2 (br_f h3 (br_t h4 ⟨_, hX _ (br_f h1 (br_f h2 (br_f h3 (br_t h4 ⟨_, hY _ ⟨rfl, I0⟩⟩))))⟩)))
section HB
variable {f_hostWidth f_hostHeight f_root f_focusedPane f_liveCount : Int32} {a_parent a_first a_second a_orientation a_share a_leastWidth a_leastHeight a_rectX a_rectY a_rectW a_rectH a_order a_live a_screenWidth a_screenHeight a_cursorRow a_cursorCol a_regionTop a_regionBottom a_parserMode a_paramOne a_paramTwo a_paramIndex a_cells : Nat → Int32}
variable {c : Nat} {nd en po : Nat → Nat} {w0 h0 : Nat} {kd vl lv : Nat → Int32} {X Y W H mw mh : Nat → Nat}
theorem xw_inside {post : Int32 → Prop} {i r s : Nat} (hn : nd i < 15) (hw : w0 ≤ 24) (hh : h0 ≤ 12) (N : la_N c nd a_leastWidth a_leastHeight a_rectX a_rectY a_rectW a_rectH w0 h0 X Y W H mw mh) (hi : i < c) (hr : r < 2 ^ 31) (hs : s < 2 ^ 31) (K1 : ge_in X Y W H r s i → post 1) (K0 : ¬ ge_in X Y W H r s i → post 0) : wpX_isInside post (f_hostWidth, f_hostHeight, f_root, f_focusedPane, f_liveCount, a_parent, a_first, a_second, a_orientation, a_share, a_leastWidth, a_leastHeight, a_rectX, a_rectY, a_rectW, a_rectH, a_order, a_live, a_screenWidth, a_screenHeight, a_cursorRow, a_cursorCol, a_regionTop, a_regionBottom, a_parserMode, a_paramOne, a_paramTwo, a_paramIndex, a_cells) (nI (nd i)) (nI r) (nI s) := by
  obtain ⟨n1, n2, n3, n4, n5, n6, n7, n8, n9, n10, n11, n12⟩ := N i hi
  have v15 := vi_15 hn
  have e := cg_15 hn
  refine ⟨v15, nm_r (e' := nI (X i)) (by rw [e]; exact n3) ⟨v15, nm_r (e' := nI (Y i)) (by rw [e]; exact n4) ?_⟩⟩
  rw [e, n5, n6, nI_add, nI_add]
  refine pk_lt r (Y i) (fun z => K0 (fun g => by unfold ge_in at g; omega)) (fun z => ⟨v15, pk_le (Y i + H i) r (fun z2 => K0 (fun g => by unfold ge_in at g; omega)) (fun z2 => pk_lt s (X i) (fun z3 => K0 (fun g => by unfold ge_in at g; omega)) (fun z3 => ⟨v15, pk_le (X i + W i) s (fun z4 => K0 (fun g => by unfold ge_in at g; omega)) (fun z4 => K1 ⟨z3, z4, z, z2⟩)⟩))⟩)
theorem xw_bstep {post : Int32 → Prop} {n r s m : Nat} (T : tr_T c nd en po f_root a_parent a_first a_second a_orientation a_share kd vl) (hw : w0 ≤ 24) (hh : h0 ≤ 12) (N : la_N c nd a_leastWidth a_leastHeight a_rectX a_rectY a_rectW a_rectH w0 h0 X Y W H mw mh) (GG : ge_G c kd en X Y W H) (hr : r < 2 ^ 31) (hs : s < 2 ^ 31) (hm : m < 15)
    (hit : ∀ i, i < c → nd i = m → kd i = 1 → ge_bd kd X Y W H r s i → post 124) (go : (∀ i, i < c → nd i = m → kd i = 1 → ¬ ge_bd kd X Y W H r s i) → wX_borderChar_3 post (nI r) (nI s) f_hostWidth f_hostHeight f_root f_focusedPane f_liveCount a_parent a_first a_second a_orientation a_share a_leastWidth a_leastHeight a_rectX a_rectY a_rectW a_rectH a_order a_live a_screenWidth a_screenHeight a_cursorRow a_cursorCol a_regionTop a_regionBottom a_parserMode a_paramOne a_paramTwo a_paramIndex a_cells n (nI (m + 1))) : wX_borderChar_3 post (nI r) (nI s) f_hostWidth f_hostHeight f_root f_focusedPane f_liveCount a_parent a_first a_second a_orientation a_share a_leastWidth a_leastHeight a_rectX a_rectY a_rectW a_rectH a_order a_live a_screenWidth a_screenHeight a_cursorRow a_cursorCol a_regionTop a_regionBottom a_parserMode a_paramOne a_paramTwo a_paramIndex a_cells (n + 1) (nI m) := by
  obtain ⟨P, T2, T3, T4, T5, T6, T7⟩ := id T
  have v15 := vi_15 hm
  have e := cg_15 hm
  refine br_f (nI_ge (b := 15) hm (by omega)) ⟨v15, ?_⟩
  rw [e]
  by_cases z : a_orientation m = 1
  · have ex : ∃ i, i < c ∧ nd i = m := by
      apply Classical.byContradiction
      intro y
      have := T7 m hm (fun i hi ei => y ⟨i, hi, ei⟩)
      rw [this] at z
      exact absurd z (by decide)
    obtain ⟨i, hi, rfl⟩ := ex
    obtain ⟨t1, t2, t3, t4, t5⟩ := T6 i hi
    have k1 : kd i = 1 := t3.symm.trans z
    obtain ⟨u1, u2, u3, u4, u5, u6⟩ := t5 (ge_10 k1)
    obtain ⟨a1, a2, a3, a4, a5, a6⟩ := ps_nd P hi (ge_10 k1)
    obtain ⟨p1, p2, p3, p4, p5, p6, p7, p8, p9, p10, p11, p12⟩ := N (i + 1) a5
    have f15 := (T6 (i + 1) a5).1
    have uq : ∀ i', i' < c → nd i' = nd i → i' = i := fun i' h' e' => tr_inj T h' hi e'
    refine br_t z (xw_inside hm hw hh N hi hr hs (fun g => br_f (by decide) ⟨v15, nm_r (e' := nI (nd (i + 1))) u3 ⟨vi_15 f15, vi_15 f15, ?_⟩⟩) (fun g => br_t rfl (nm_r (nI_1 _) (go (fun i' h' e' _ => ?_)))))
    · rw [cg_15 f15, p3, p5, nI_add]
      rcases GG i hi (ge_10 k1) with gg | gg
      · refine pk_eq s (X (i + 1) + W (i + 1)) (fun y => hit i hi rfl k1 (Or.inl ⟨k1, ?_⟩)) (fun y => nm_r (nI_1 _) (go (fun i' h' e' _ bd => ?_)))
        · unfold ge_in at g; omega
        · have ei := uq i' h' e'
          subst ei
          rcases bd with bd | bd
          · omega
          · exact ge_12 k1 bd.1
      · exact (ge_12 k1 gg.1).elim
    · intro bd
      have ei := uq i' h' e'
      subst ei
      exact g (ge_bd_in GG hi bd)
  · refine br_f z (nm_r (nI_1 m) (go (fun i hi ei ki => ?_)))
    have := (T6 i hi).2.2.1
    rw [ei, ki] at this
    exact absurd this z
theorem xw_border1 {post : Int32 → Prop} {j r s : Nat} (T : tr_T c nd en po f_root a_parent a_first a_second a_orientation a_share kd vl) (hw : w0 ≤ 24) (hh : h0 ≤ 12) (N : la_N c nd a_leastWidth a_leastHeight a_rectX a_rectY a_rectW a_rectH w0 h0 X Y W H mw mh) (GG : ge_G c kd en X Y W H) (hr : r < 2 ^ 31) (hs : s < 2 ^ 31) (hj : j < c) (kj : kd j = 1) (bd : ge_bd kd X Y W H r s j) (K : post 124) : wpX_borderChar post (f_hostWidth, f_hostHeight, f_root, f_focusedPane, f_liveCount, a_parent, a_first, a_second, a_orientation, a_share, a_leastWidth, a_leastHeight, a_rectX, a_rectY, a_rectW, a_rectH, a_order, a_live, a_screenWidth, a_screenHeight, a_cursorRow, a_cursorCol, a_regionTop, a_regionBottom, a_parserMode, a_paramOne, a_paramTwo, a_paramIndex, a_cells) (nI r) (nI s) := by
  have t := T.2.2.2.2.2.1 j hj
  have j8 := (t.2.2.2.2 (ge_10 kj)).1
  have j15 := t.1
  have main : ∀ dd m, m + dd = nd j → wX_borderChar_3 post (nI r) (nI s) f_hostWidth f_hostHeight f_root f_focusedPane f_liveCount a_parent a_first a_second a_orientation a_share a_leastWidth a_leastHeight a_rectX a_rectY a_rectW a_rectH a_order a_live a_screenWidth a_screenHeight a_cursorRow a_cursorCol a_regionTop a_regionBottom a_parserMode a_paramOne a_paramTwo a_paramIndex a_cells (dd + 1) (nI m) := by
    intro dd
    induction dd with
    | zero =>
      intro m hm
      refine xw_bstep T hw hh N GG hr hs (by omega) (fun i hi ei ki _ => K) (fun no => ?_)
      exact absurd bd (no j hj (by omega) kj)
    | succ dd ih =>
      intro m hm
      exact xw_bstep T hw hh N GG hr hs (by omega) (fun i hi ei ki _ => K) (fun no => ih (m + 1) (by omega))
  obtain ⟨dd, hd⟩ : ∃ dd, 8 + dd = nd j := ⟨nd j - 8, by omega⟩
  exact ⟨dd + 1, main dd 8 hd⟩
theorem xw_border2 {post : Int32 → Prop} {r s : Nat} (T : tr_T c nd en po f_root a_parent a_first a_second a_orientation a_share kd vl) (hw : w0 ≤ 24) (hh : h0 ≤ 12) (N : la_N c nd a_leastWidth a_leastHeight a_rectX a_rectY a_rectW a_rectH w0 h0 X Y W H mw mh) (GG : ge_G c kd en X Y W H) (hr : r < 2 ^ 31) (hs : s < 2 ^ 31) (no : ∀ i, i < c → kd i = 1 → ¬ ge_bd kd X Y W H r s i) (K : post 45) : wpX_borderChar post (f_hostWidth, f_hostHeight, f_root, f_focusedPane, f_liveCount, a_parent, a_first, a_second, a_orientation, a_share, a_leastWidth, a_leastHeight, a_rectX, a_rectY, a_rectW, a_rectH, a_order, a_live, a_screenWidth, a_screenHeight, a_cursorRow, a_cursorCol, a_regionTop, a_regionBottom, a_parserMode, a_paramOne, a_paramTwo, a_paramIndex, a_cells) (nI r) (nI s) := by
  have main : ∀ dd m, m + dd = 15 → wX_borderChar_3 post (nI r) (nI s) f_hostWidth f_hostHeight f_root f_focusedPane f_liveCount a_parent a_first a_second a_orientation a_share a_leastWidth a_leastHeight a_rectX a_rectY a_rectW a_rectH a_order a_live a_screenWidth a_screenHeight a_cursorRow a_cursorCol a_regionTop a_regionBottom a_parserMode a_paramOne a_paramTwo a_paramIndex a_cells (dd + 1) (nI m) := by
    intro dd
    induction dd with
    | zero =>
      intro m hm
      have e : m = 15 := by omega
      subst e
      exact br_t (nI_le (a := 15) (Nat.le_refl _) (by omega)) K
    | succ dd ih =>
      intro m hm
      exact xw_bstep T hw hh N GG hr hs (by omega) (fun i hi ei ki b => absurd b (no i hi ki)) (fun _ => ih (m + 1) (by omega))
  exact ⟨8, main 7 8 (by omega)⟩
end HB
theorem i_vc_hostChar {k : Nat} {u : SX} {v : SY} (I : i_Rel k u v) (hk : k + 4 ≤ 2050) (v1 : Int32) (v2 : Int32) : wpX_hostChar (fun r => wpY_hostChar (fun r' v' => r' = r ∧ i_Rel (k + 4) u v') v v1 v2) u v1 v2 := by
  obtain ⟨f_hostWidth, f_hostHeight, f_root, f_focusedPane, f_liveCount, a_parent, a_first, a_second, a_orientation, a_share, a_leastWidth, a_leastHeight, a_rectX, a_rectY, a_rectW, a_rectH, a_order, a_live, a_screenWidth, a_screenHeight, a_cursorRow, a_cursorCol, a_regionTop, a_regionBottom, a_parserMode, a_paramOne, a_paramTwo, a_paramIndex, a_cells⟩ := u
  obtain ⟨f_count, f_hostW, f_hostH, f_focus, f_resW, f_resH, a_kind, a_val, a_tk, a_tv, b_live, a_wasLive, a_rx, a_ry, a_rw, a_rh, a_oldW, a_oldH, a_row, a_col, a_top, a_bot, a_mode, a_p1, a_p2, a_k, b_cells, a_sx, a_sy, a_sw, a_sh, a_mw, a_mh⟩ := v
  have I0 := I
  obtain ⟨c, nd, en, po, w0, h0, f, J⟩ := I
  obtain ⟨rfl, rfl, rfl, rfl, rfl, j6, rfl, rfl, j9, j10, rfl, rfl, rfl, rfl, rfl, rfl, rfl, rfl, rfl, G, Pn⟩ := J
  by_cases o : v1 < 0 ∨ nI h0 ≤ v1 ∨ v2 < 0 ∨ ¬ v2 < nI w0
  · obtain ⟨hX, _, hC⟩ := ho_out rfl rfl rfl rfl o
    unfold wpX_hostChar
    exact hX _ (br_t rfl (hC _ ⟨rfl, I0⟩))
  · obtain ⟨T, L, E, g1, g2, g3, g4, g5, g6, g7⟩ := id G
    obtain ⟨P, T2, T3, T4, T5, T6, T7⟩ := id T
    obtain ⟨rr, ss, rfl, rfl, hr, hs⟩ := ho_in (by omega) (by omega) o
    have h1 : ¬ nI rr < 0 := nI_pos (by omega)
    have h2 : ¬ nI h0 ≤ nI rr := nI_ge hr (by omega)
    have h3 : ¬ nI ss < 0 := nI_pos (by omega)
    have h4 : nI ss < nI w0 := nI_lt hs (by omega)
    obtain ⟨r, hX, hY, hc⟩ := ho_scan (p := nI rr) (q := nI ss) rfl Pn 8 0 (by omega)
    unfold wpX_hostChar
    refine br_f h1 (br_f h2 (br_f h3 (br_t h4 ⟨_, hX _ ?_⟩)))
    rcases hc with ⟨rm, out⟩ | ⟨g, hg, hl, rg⟩
    · subst rm
      obtain ⟨X, Y, W, H, mw, mh, N, GG⟩ := rl_nat G
      have in0 : ge_in X Y W H rr ss 0 := by
        obtain ⟨n1, n2, n3, n4, n5, n6, n7, n8, n9, n10, n11, n12⟩ := N 0 P.1
        obtain ⟨E1, E2, E3, E4, E5⟩ := E
        have q1 : X 0 = 0 := (nI_eq (by omega) (by omega)).mp (n3.symm.trans E1)
        have q2 : Y 0 = 0 := (nI_eq (by omega) (by omega)).mp (n4.symm.trans E2)
        have q3 : W 0 = w0 := (nI_eq (by omega) (by omega)).mp (n5.symm.trans E3)
        have q4 : H 0 = h0 := (nI_eq (by omega) (by omega)).mp (n6.symm.trans E4)
        unfold ge_in
        omega
      obtain ⟨j, _, jc, hj⟩ := ge_cov P GG 0 P.1 in0
      rw [P.2.1] at jc
      have bd : ge_bd a_kind X Y W H rr ss j := by
        rcases hj with ⟨kj, ij⟩ | b
        · exfalso
          obtain ⟨n1, n2, n3, n4, n5, n6, n7, n8, n9, n10, n11, n12⟩ := N j jc
          have nj := ((T6 j jc).2.2.2.1 kj).1
          have oo := out (nd j) (Nat.zero_le _) nj ((g7 (nd j) nj).2.mpr ⟨j, jc, rfl⟩)
          rw [n3, n4, n5, n6, nI_add, nI_add, nI_ltI (by omega) (by omega), nI_leI (by omega) (by omega), nI_ltI (by omega) (by omega), nI_leI (by omega) (by omega)] at oo
          unfold ge_in at ij
          omega
        · exact b
      have Fv := la_Fv P (by omega) (by omega) (by omega) (by omega) N GG jc bd
      have Yw : ∀ (post : Int32 → SY → Prop) (x : Int32), x = (if a_kind j = 1 then 124 else 45) → (∀ (rW rH : Int32) (rx ry rw rh sx sy sw sh mw mh : Nat → Int32), (∀ q, q < c → a_kind q = 0 → rx (nd q) = a_rectX (nd q) ∧ ry (nd q) = a_rectY (nd q) ∧ rw (nd q) = a_rectW (nd q) ∧ rh (nd q) = a_rectH (nd q)) → narrow .char (.int x) = .int x → post x (nI c, nI w0, nI h0, nI f, rW, rH, a_kind, a_val, a_tk, a_tv, a_live, a_wasLive, rx, ry, rw, rh, a_oldW, a_oldH, a_cursorRow, a_cursorCol, a_regionTop, a_regionBottom, a_parserMode, a_paramOne, a_paramTwo, a_paramIndex, b_cells, sx, sy, sw, sh, mw, mh)) → wpY_hostChar post (nI c, nI w0, nI h0, nI f, f_resW, f_resH, a_kind, a_val, a_tk, a_tv, a_live, a_wasLive, a_rx, a_ry, a_rw, a_rh, a_oldW, a_oldH, a_cursorRow, a_cursorCol, a_regionTop, a_regionBottom, a_parserMode, a_paramOne, a_paramTwo, a_paramIndex, b_cells, a_sx, a_sy, a_sw, a_sh, a_mw, a_mh) (nI rr) (nI ss) := by
        intro post x hx K
        refine br_f h1 (br_f h2 (br_f h3 (br_t h4 (br_f h1 (br_f h2 (br_f h3 (br_t h4 ⟨_, hY _ (br_t (by decide) (yw_layout P T5 T2 rfl (rl_hnd T) (rl_ND T) L E (fun rW rH rx ry rw rh sx sy sw sh mw mh RE => ?_)))⟩)))))))
        rw [Fv, ← hx]
        have nx : narrow .char (.int x) = .int x := by
          rw [hx]
          split
          · exact (pk_charN (q := 124) (by omega)).1
          · exact (pk_charN (q := 45) (by omega)).1
        exact ⟨nx, K rW rH rx ry rw rh sx sy sw sh mw mh RE nx⟩
      have Rl : ∀ (rW rH : Int32) (rx ry rw rh sx sy sw sh mw mh : Nat → Int32), (∀ q, q < c → a_kind q = 0 → rx (nd q) = a_rectX (nd q) ∧ ry (nd q) = a_rectY (nd q) ∧ rw (nd q) = a_rectW (nd q) ∧ rh (nd q) = a_rectH (nd q)) → i_Rel (k + 4) (nI w0, nI h0, f_root, nI f, f_liveCount, a_parent, a_first, a_second, a_orientation, a_share, a_leastWidth, a_leastHeight, a_rectX, a_rectY, a_rectW, a_rectH, a_order, a_live, a_screenWidth, a_screenHeight, a_cursorRow, a_cursorCol, a_regionTop, a_regionBottom, a_parserMode, a_paramOne, a_paramTwo, a_paramIndex, a_cells) (nI c, nI w0, nI h0, nI f, rW, rH, a_kind, a_val, a_tk, a_tv, a_live, a_wasLive, rx, ry, rw, rh, a_oldW, a_oldH, a_cursorRow, a_cursorCol, a_regionTop, a_regionBottom, a_parserMode, a_paramOne, a_paramTwo, a_paramIndex, b_cells, sx, sy, sw, sh, mw, mh) := by
        intro rW rH rx ry rw rh sx sy sw sh mw mh RE
        refine ⟨c, nd, en, po, w0, h0, f, rfl, rfl, rfl, rfl, rfl, j6, rfl, rfl, j9, j10, rfl, rfl, rfl, rfl, rfl, rfl, rfl, rfl, rfl, G, ?_⟩
        intro g hg hl
        obtain ⟨q, hq, kq, e⟩ := rl_leaf G hg hl
        have re := RE q hq kq
        rw [e] at re
        obtain ⟨a1, a2, a3, a4, rest⟩ := Pn g hg hl
        exact ⟨re.1, re.2.1, re.2.2.1, re.2.2.2, rest⟩
      by_cases kj : a_kind j = 1
      · refine br_f (by decide) (br_t rfl (xw_border1 T (by omega) (by omega) N GG (by omega) (by omega) jc kj bd ⟨(pk_charN (q := 124) (by omega)).1, Yw _ 124 (by rw [if_pos kj]) (fun rW rH rx ry rw rh sx sy sw sh mw mh RE _ => ⟨rfl, Rl rW rH rx ry rw rh sx sy sw sh mw mh RE⟩)⟩))
      · refine br_f (by decide) (br_t rfl (xw_border2 T (by omega) (by omega) N GG (by omega) (by omega) (fun i hi ki b => ?_) ⟨(pk_charN (q := 45) (by omega)).1, Yw _ 45 (by rw [if_neg kj]) (fun rW rH rx ry rw rh sx sy sw sh mw mh RE _ => ⟨rfl, Rl rW rH rx ry rw rh sx sy sw sh mw mh RE⟩)⟩))
        have e := ge_one P GG 0 P.1 i j (Nat.zero_le _) (by rw [P.2.1]; exact hi) (Nat.zero_le _) (by rw [P.2.1]; exact jc) b bd
        subst e
        exact kj ki
    · subst rg
      obtain ⟨a1, a2, a3, a4, rest⟩ := Pn g hg hl
      have e := cg_8 hg
      have n2 : ¬ nI g = -2 := fun z => by have := nI_pos (n := g) (by omega); rw [z] at this; exact this (by decide)
      have n1 : ¬ nI g = -1 := tr_m1 (by omega)
      obtain ⟨x, pX, pY, nx⟩ := pc_val (f_hostWidth := nI w0) (f_hostHeight := nI h0) (f_focusedPane := nI f) (f_root := f_root) (f_liveCount := f_liveCount) (a_parent := a_parent) (a_first := a_first) (a_second := a_second) (a_orientation := a_orientation) (a_share := a_share) (a_leastWidth := a_leastWidth) (a_leastHeight := a_leastHeight) (a_order := a_order) (f_count := nI c) (f_hostW := nI w0) (f_hostH := nI h0) (f_focus := nI f) (f_resW := f_resW) (f_resH := f_resH) (a_kind := a_kind) (a_val := a_val) (a_tk := a_tk) (a_tv := a_tv) (a_wasLive := a_wasLive) (a_oldW := a_oldW) (a_oldH := a_oldH) (a_row := a_cursorRow) (a_col := a_cursorCol) (a_top := a_regionTop) (a_bot := a_regionBottom) (a_mode := a_parserMode) (a_p1 := a_paramOne) (a_p2 := a_paramTwo) (a_k := a_paramIndex) (a_sx := a_sx) (a_sy := a_sy) (a_sw := a_sw) (a_sh := a_sh) (a_mw := a_mw) (a_mh := a_mh) hg hl rfl (Pn g hg) (nI rr - a_rectY g) (nI ss - a_rectX g)
      have v15 : vp_in (nI g) 15 := vi_15 (by omega)
      refine br_f n2 (br_f n1 ⟨v15, v15, ?_⟩)
      rw [e]
      refine pX _ ⟨nx, br_f h1 (br_f h2 (br_f h3 (br_t h4 (br_f h1 (br_f h2 (br_f h3 (br_t h4 ⟨_, hY _ (br_f (nI_pos (by omega)) ⟨vi_8 hg, vi_8 hg, ?_⟩)⟩)))))))⟩
      rw [e, a1, a2]
      exact pY _ ⟨nx, rfl, I0⟩
