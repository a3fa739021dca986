theorem ho_in {p q : Int32} {w0 h0 : Nat} (hw : w0 ≤ 24) (hh : h0 ≤ 12) (o : ¬ (p < 0 ∨ nI h0 ≤ p ∨ q < 0 ∨ ¬ q < nI w0)) : ∃ r s, p = nI r ∧ q = nI s ∧ r < h0 ∧ s < w0 := by
  have h1 : ¬ p < 0 := fun z => o (Or.inl z)
  have h2 : ¬ nI h0 ≤ p := fun z => o (Or.inr (Or.inl z))
  have h3 : ¬ q < 0 := fun z => o (Or.inr (Or.inr (Or.inl z)))
  have h4 : q < nI w0 := by
    by_cases z : q < nI w0
    · exact z
    · exact absurd (Or.inr (Or.inr (Or.inr z))) o
  obtain ⟨r, hr, rfl⟩ := nI_of h1
  obtain ⟨s, hs, rfl⟩ := nI_of h3
  rw [nI_leI (by omega) hr] at h2
  rw [nI_ltI hs (by omega)] at h4
  exact ⟨r, s, rfl, rfl, by omega, h4⟩
section HB
variable {f_hostWidth f_hostHeight f_root f_focusedPane f_liveCount : Int32} {a_parent a_first a_second a_orientation a_share a_leastWidth a_leastHeight a_rectX a_rectY a_rectW a_rectH a_order a_live a_screenWidth a_screenHeight a_cursorRow a_cursorCol a_regionTop a_regionBottom a_parserMode a_paramOne a_paramTwo a_paramIndex a_cells : Nat → Int32}
variable {c : Nat} {nd en po : Nat → Nat} {w0 h0 : Nat} {kd vl lv : Nat → Int32} {X Y W H mw mh : Nat → Nat}
theorem xw_inside {post : Int32 → Prop} {i r s : Nat} (hn : nd i < 15) (hw : w0 ≤ 24) (hh : h0 ≤ 12) (N : la_N c nd a_leastWidth a_leastHeight a_rectX a_rectY a_rectW a_rectH w0 h0 X Y W H mw mh) (hi : i < c) (hr : r < 2 ^ 31) (hs : s < 2 ^ 31) (K1 : ge_in X Y W H r s i → post 1) (K0 : ¬ ge_in X Y W H r s i → post 0) : wpX_isInside post (f_hostWidth, f_hostHeight, f_root, f_focusedPane, f_liveCount, a_parent, a_first, a_second, a_orientation, a_share, a_leastWidth, a_leastHeight, a_rectX, a_rectY, a_rectW, a_rectH, a_order, a_live, a_screenWidth, a_screenHeight, a_cursorRow, a_cursorCol, a_regionTop, a_regionBottom, a_parserMode, a_paramOne, a_paramTwo, a_paramIndex, a_cells) (nI (nd i)) (nI r) (nI s) := by
  obtain ⟨n1, n2, n3, n4, n5, n6, n7, n8, n9, n10, n11, n12⟩ := N i hi
  have v15 := vi_15 hn
  have e := cg_15 hn
  refine ⟨v15, nm_r (e' := nI (X i)) (by rw [e]; exact n3) ⟨v15, nm_r (e' := nI (Y i)) (by rw [e]; exact n4) ?_⟩⟩
  rw [e, n5, n6, nI_add, nI_add]
  refine pk_lt r (Y i) (fun z => K0 (fun g => by unfold ge_in at g; omega)) (fun z => ⟨v15, pk_le (Y i + H i) r (fun z2 => K0 (fun g => by unfold ge_in at g; omega)) (fun z2 => pk_lt s (X i) (fun z3 => K0 (fun g => by unfold ge_in at g; omega)) (fun z3 => ⟨v15, pk_le (X i + W i) s (fun z4 => K0 (fun g => by unfold ge_in at g; omega)) (fun z4 => K1 ⟨z3, z4, z, z2⟩)⟩))⟩)
theorem xw_bstep {post : Int32 → Prop} {n r s m : Nat} (T : tr_T c nd en po f_root a_parent a_first a_second a_orientation a_share kd vl) (hw : w0 ≤ 24) (hh : h0 ≤ 12) (N : la_N c nd a_leastWidth a_leastHeight a_rectX a_rectY a_rectW a_rectH w0 h0 X Y W H mw mh) (GG : ge_G c kd en X Y W H) (hr : r < 2 ^ 31) (hs : s < 2 ^ 31) (hm : m < 15)
    (hit : ∀ i, i < c → nd i = m → kd i = 1 → ge_bd kd X Y W H r s i → post 124) (go : (∀ i, i < c → nd i = m → kd i = 1 → ¬ ge_bd kd X Y W H r s i) → wX_borderChar_3 post (nI r) (nI s) f_hostWidth f_hostHeight f_root f_focusedPane f_liveCount a_parent a_first a_second a_orientation a_share a_leastWidth a_leastHeight a_rectX a_rectY a_rectW a_rectH a_order a_live a_screenWidth a_screenHeight a_cursorRow a_cursorCol a_regionTop a_regionBottom a_parserMode a_paramOne a_paramTwo a_paramIndex a_cells n (nI (m + 1))) : wX_borderChar_3 post (nI r) (nI s) f_hostWidth f_hostHeight f_root f_focusedPane f_liveCount a_parent a_first a_second a_orientation a_share a_leastWidth a_leastHeight a_rectX a_rectY a_rectW a_rectH a_order a_live a_screenWidth a_screenHeight a_cursorRow a_cursorCol a_regionTop a_regionBottom a_parserMode a_paramOne a_paramTwo a_paramIndex a_cells (n + 1) (nI m) := by
  obtain ⟨P, T2, T3, T4, T5, T6, T7⟩ := id T
  have v15 := vi_15 hm
  have e := cg_15 hm
  refine br_f (nI_ge (b := 15) hm (by omega)) ⟨v15, ?_⟩
  rw [e]
  by_cases z : a_orientation m = 1
  · have ex : ∃ i, i < c ∧ nd i = m := by
      apply Classical.byContradiction
      intro y
      have := T7 m hm (fun i hi ei => y ⟨i, hi, ei⟩)
      rw [this] at z
      exact absurd z (by decide)
    obtain ⟨i, hi, rfl⟩ := ex
    obtain ⟨t1, t2, t3, t4, t5⟩ := T6 i hi
    have k1 : kd i = 1 := t3.symm.trans z
    obtain ⟨u1, u2, u3, u4, u5, u6⟩ := t5 (ge_10 k1)
    obtain ⟨a1, a2, a3, a4, a5, a6⟩ := ps_nd P hi (ge_10 k1)
    obtain ⟨p1, p2, p3, p4, p5, p6, p7, p8, p9, p10, p11, p12⟩ := N (i + 1) a5
    have f15 := (T6 (i + 1) a5).1
    have uq : ∀ i', i' < c → nd i' = nd i → i' = i := fun i' h' e' => tr_inj T h' hi e'
    refine br_t z (xw_inside hm hw hh N hi hr hs (fun g => br_f (by decide) ⟨v15, nm_r (e' := nI (nd (i + 1))) u3 ⟨vi_15 f15, vi_15 f15, ?_⟩⟩) (fun g => br_t rfl (nm_r (nI_1 _) (go (fun i' h' e' _ => ?_)))))
    · rw [cg_15 f15, p3, p5, nI_add]
      rcases GG i hi (ge_10 k1) with gg | gg
      · refine pk_eq s (X (i + 1) + W (i + 1)) (fun y => hit i hi rfl k1 (Or.inl ⟨k1, ?_⟩)) (fun y => nm_r (nI_1 _) (go (fun i' h' e' _ bd => ?_)))
        · unfold ge_in at g; omega
        · have ei := uq i' h' e'
          subst ei
          rcases bd with bd | bd
          · omega
          · exact ge_12 k1 bd.1
      · exact (ge_12 k1 gg.1).elim
    · intro bd
      have ei := uq i' h' e'
      subst ei
      exact g (ge_bd_in GG hi bd)
  · refine br_f z (nm_r (nI_1 m) (go (fun i hi ei ki => ?_)))
    have := (T6 i hi).2.2.1
    rw [ei, ki] at this
    exact absurd this z
theorem xw_border1 {post : Int32 → Prop} {j r s : Nat} (T : tr_T c nd en po f_root a_parent a_first a_second a_orientation a_share kd vl) (hw : w0 ≤ 24) (hh : h0 ≤ 12) (N : la_N c nd a_leastWidth a_leastHeight a_rectX a_rectY a_rectW a_rectH w0 h0 X Y W H mw mh) (GG : ge_G c kd en X Y W H) (hr : r < 2 ^ 31) (hs : s < 2 ^ 31) (hj : j < c) (kj : kd j = 1) (bd : ge_bd kd X Y W H r s j) (K : post 124) : wpX_borderChar post (f_hostWidth, f_hostHeight, f_root, f_focusedPane, f_liveCount, a_parent, a_first, a_second, a_orientation, a_share, a_leastWidth, a_leastHeight, a_rectX, a_rectY, a_rectW, a_rectH, a_order, a_live, a_screenWidth, a_screenHeight, a_cursorRow, a_cursorCol, a_regionTop, a_regionBottom, a_parserMode, a_paramOne, a_paramTwo, a_paramIndex, a_cells) (nI r) (nI s) := by
  have t := T.2.2.2.2.2.1 j hj
  have j8 := (t.2.2.2.2 (ge_10 kj)).1
  have j15 := t.1
  have main : ∀ dd m, m + dd = nd j → wX_borderChar_3 post (nI r) (nI s) f_hostWidth f_hostHeight f_root f_focusedPane f_liveCount a_parent a_first a_second a_orientation a_share a_leastWidth a_leastHeight a_rectX a_rectY a_rectW a_rectH a_order a_live a_screenWidth a_screenHeight a_cursorRow a_cursorCol a_regionTop a_regionBottom a_parserMode a_paramOne a_paramTwo a_paramIndex a_cells (dd + 1) (nI m) := by
    intro dd
    induction dd with
    | zero =>
      intro m hm
      refine xw_bstep T hw hh N GG hr hs (by omega) (fun i hi ei ki _ => K) (fun no => ?_)
      exact absurd bd (no j hj (by omega) kj)
    | succ dd ih =>
      intro m hm
      exact xw_bstep T hw hh N GG hr hs (by omega) (fun i hi ei ki _ => K) (fun no => ih (m + 1) (by omega))
  obtain ⟨dd, hd⟩ : ∃ dd, 8 + dd = nd j := ⟨nd j - 8, by omega⟩
  exact ⟨dd + 1, main dd 8 hd⟩
theorem xw_border2 {post : Int32 → Prop} {r s : Nat} (T : tr_T c nd en po f_root a_parent a_first a_second a_orientation a_share kd vl) (hw : w0 ≤ 24) (hh : h0 ≤ 12) (N : la_N c nd a_leastWidth a_leastHeight a_rectX a_rectY a_rectW a_rectH w0 h0 X Y W H mw mh) (GG : ge_G c kd en X Y W H) (hr : r < 2 ^ 31) (hs : s < 2 ^ 31) (no : ∀ i, i < c → kd i = 1 → ¬ ge_bd kd X Y W H r s i) (K : post 45) : wpX_borderChar post (f_hostWidth, f_hostHeight, f_root, f_focusedPane, f_liveCount, a_parent, a_first, a_second, a_orientation, a_share, a_leastWidth, a_leastHeight, a_rectX, a_rectY, a_rectW, a_rectH, a_order, a_live, a_screenWidth, a_screenHeight, a_cursorRow, a_cursorCol, a_regionTop, a_regionBottom, a_parserMode, a_paramOne, a_paramTwo, a_paramIndex, a_cells) (nI r) (nI s) := by
  have main : ∀ dd m, m + dd = 15 → wX_borderChar_3 post (nI r) (nI s) f_hostWidth f_hostHeight f_root f_focusedPane f_liveCount a_parent a_first a_second a_orientation a_share a_leastWidth a_leastHeight a_rectX a_rectY a_rectW a_rectH a_order a_live a_screenWidth a_screenHeight a_cursorRow a_cursorCol a_regionTop a_regionBottom a_parserMode a_paramOne a_paramTwo a_paramIndex a_cells (dd + 1) (nI m) := by
    intro dd
    induction dd with
    | zero =>
      intro m hm
      have e : m = 15 := by omega
      subst e
      exact br_t (nI_le (a := 15) (Nat.le_refl _) (by omega)) K
    | succ dd ih =>
      intro m hm
      exact xw_bstep T hw hh N GG hr hs (by omega) (fun i hi ei ki b => absurd b (no i hi ki)) (fun _ => ih (m + 1) (by omega))
  exact ⟨8, main 7 8 (by omega)⟩
end HB
