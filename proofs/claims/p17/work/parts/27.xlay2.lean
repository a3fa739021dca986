section XM
variable {f_hostWidth f_hostHeight f_root f_focusedPane f_liveCount : Int32} {a_parent a_first a_second a_orientation a_share a_leastWidth a_leastHeight a_rectX a_rectY a_rectW a_rectH a_order a_live a_screenWidth a_screenHeight a_cursorRow a_cursorCol a_regionTop a_regionBottom a_parserMode a_paramOne a_paramTwo a_paramIndex a_cells : Nat → Int32}
variable {c : Nat} {nd en po : Nat → Nat} {kd vl : Nat → Int32}
theorem xw_lay77 {post : St2 → Prop} {k : Nat} {o : Nat → Nat} (T : tr_T c nd en po f_root a_parent a_first a_second a_orientation a_share kd vl) (O : bf_O c kd en k o) (ord : ∀ j, j < k → a_order j = nI (nd (o j)))
    (R : bf_R c k 0 kd vl nd en o a_leastWidth a_leastHeight a_rectX a_rectY a_rectW a_rectH f_hostWidth f_hostHeight)
    (K : ∀ rx ry rw rh, la_E c kd vl nd en a_leastWidth a_leastHeight rx ry rw rh f_hostWidth f_hostHeight → post (f_hostWidth, f_hostHeight, f_root, f_focusedPane, f_liveCount, a_parent, a_first, a_second, a_orientation, a_share, a_leastWidth, a_leastHeight, rx, ry, rw, rh, a_order, a_live, a_screenWidth, a_screenHeight, a_cursorRow, a_cursorCol, a_regionTop, a_regionBottom, a_parserMode, a_paramOne, a_paramTwo, a_paramIndex, a_cells)) : ∃ n, wX_layOut_77 post (nI k) n 0 f_hostWidth f_hostHeight f_root f_focusedPane f_liveCount a_parent a_first a_second a_orientation a_share a_leastWidth a_leastHeight a_rectX a_rectY a_rectW a_rectH a_order a_live a_screenWidth a_screenHeight a_cursorRow a_cursorCol a_regionTop a_regionBottom a_parserMode a_paramOne a_paramTwo a_paramIndex a_cells := by
  obtain ⟨P, T2, T3, T4, T5, T6, T7⟩ := id T
  have ND : ∀ a b, a < c → b < c → nd a = nd b → a = b := fun a b ha hb e => tr_inj T ha hb e
  have kc := O.2.1
  refine pk_loop (fun n i (s : (Nat → Int32) × (Nat → Int32) × (Nat → Int32) × (Nat → Int32)) => wX_layOut_77 post (nI k) n (nI i) f_hostWidth f_hostHeight f_root f_focusedPane f_liveCount a_parent a_first a_second a_orientation a_share a_leastWidth a_leastHeight s.1 s.2.1 s.2.2.1 s.2.2.2 a_order a_live a_screenWidth a_screenHeight a_cursorRow a_cursorCol a_regionTop a_regionBottom a_parserMode a_paramOne a_paramTwo a_paramIndex a_cells)
    (fun i s => bf_R c k i kd vl nd en o a_leastWidth a_leastHeight s.1 s.2.1 s.2.2.1 s.2.2.2 f_hostWidth f_hostHeight) k 0 (a_rectX, a_rectY, a_rectW, a_rectH) (Nat.zero_le _) R ?_ ?_
  · intro n s hs
    exact br_t (nI_le (Nat.le_refl _) (by omega)) (K _ _ _ _ (bf_E O hs))
  · intro n i s hi hs kk
    obtain ⟨rx, ry, rw, rh⟩ := s
    have oi := O.2.2.2.1 i hi
    obtain ⟨t1, t2, t3, t4, t5⟩ := T6 (o i) oi
    refine br_f (nI_ge hi (by omega)) ⟨vi_15 (by omega), ?_⟩
    rw [cg_15 (by omega), ord i hi]
    rcases T5 (o i) oi with z | ⟨z | z, _⟩
    · exact xw_place0 t1 (by rw [t3]; exact z) (nm_r (nI_1 i) (kk (rx, ry, rw, rh) (bf_R0 hs z)))
    · have z0 := ge_10 z
      obtain ⟨u1, u2, u3, u4, u5, u6⟩ := t5 z0
      obtain ⟨a1, a2, a3, a4, a5, a6⟩ := ps_nd P oi z0
      exact xw_place1 (v := la_v (rw (nd (o i))) (vl (o i)) (a_leastWidth (nd (o i + 1))) (a_leastWidth (nd (en (o i + 1))))) t1 (T6 _ a5).1 (T6 _ a6).1 u3 u4 (t3.trans z) (by rw [u2]) (nm_r (nI_1 i) (kk (upd (upd rx (nd (o i + 1)) (rx (nd (o i)))) (nd (en (o i + 1))) (rx (nd (o i)) + _ + 1), upd (upd ry (nd (o i + 1)) (ry (nd (o i)))) (nd (en (o i + 1))) (ry (nd (o i))), upd (upd rw (nd (o i + 1)) _) (nd (en (o i + 1))) (rw (nd (o i)) - _ - 1), upd (upd rh (nd (o i + 1)) (rh (nd (o i)))) (nd (en (o i + 1))) (rh (nd (o i)))) (bf_p1 P ND O hi hs z rfl)))
    · have z0 := ge_20 z
      obtain ⟨u1, u2, u3, u4, u5, u6⟩ := t5 z0
      obtain ⟨a1, a2, a3, a4, a5, a6⟩ := ps_nd P oi z0
      exact xw_place2 (v := la_v (rh (nd (o i))) (vl (o i)) (a_leastHeight (nd (o i + 1))) (a_leastHeight (nd (en (o i + 1))))) t1 (T6 _ a5).1 (T6 _ a6).1 u3 u4 (t3.trans z) (by rw [u2]) (nm_r (nI_1 i) (kk (upd (upd rx (nd (o i + 1)) (rx (nd (o i)))) (nd (en (o i + 1))) (rx (nd (o i))), upd (upd ry (nd (o i + 1)) (ry (nd (o i)))) (nd (en (o i + 1))) (ry (nd (o i)) + _ + 1), upd (upd rw (nd (o i + 1)) (rw (nd (o i)))) (nd (en (o i + 1))) (rw (nd (o i))), upd (upd rh (nd (o i + 1)) _) (nd (en (o i + 1))) (rh (nd (o i)) - _ - 1)) (bf_p2 P ND O hi hs z rfl)))
theorem xw_lay9 {post : St2 → Prop} {k : Nat} {o : Nat → Nat} (T : tr_T c nd en po f_root a_parent a_first a_second a_orientation a_share kd vl) (O : bf_O c kd en k o) (ord : ∀ j, j < k → a_order j = nI (nd (o j)))
    (K : ∀ lw lh rx ry rw rh, la_L c kd nd en lw lh → la_E c kd vl nd en lw lh rx ry rw rh f_hostWidth f_hostHeight → post (f_hostWidth, f_hostHeight, f_root, f_focusedPane, f_liveCount, a_parent, a_first, a_second, a_orientation, a_share, lw, lh, rx, ry, rw, rh, a_order, a_live, a_screenWidth, a_screenHeight, a_cursorRow, a_cursorCol, a_regionTop, a_regionBottom, a_parserMode, a_paramOne, a_paramTwo, a_paramIndex, a_cells)) : ∃ n, wX_layOut_9 post (nI k) n (nI k - 1) f_hostWidth f_hostHeight f_root f_focusedPane f_liveCount a_parent a_first a_second a_orientation a_share a_leastWidth a_leastHeight a_rectX a_rectY a_rectW a_rectH a_order a_live a_screenWidth a_screenHeight a_cursorRow a_cursorCol a_regionTop a_regionBottom a_parserMode a_paramOne a_paramTwo a_paramIndex a_cells := by
  obtain ⟨P, T2, T3, T4, T5, T6, T7⟩ := id T
  have ND : ∀ a b, a < c → b < c → nd a = nd b → a = b := fun a b ha hb e => tr_inj T ha hb e
  have kc := O.2.1
  refine ⟨k + 1, pk_loopD (fun n i (s : (Nat → Int32) × (Nat → Int32)) => wX_layOut_9 post (nI k) n (nI i - 1) f_hostWidth f_hostHeight f_root f_focusedPane f_liveCount a_parent a_first a_second a_orientation a_share s.1 s.2 a_rectX a_rectY a_rectW a_rectH a_order a_live a_screenWidth a_screenHeight a_cursorRow a_cursorCol a_regionTop a_regionBottom a_parserMode a_paramOne a_paramTwo a_paramIndex a_cells)
    (fun i s => i ≤ k ∧ ∀ j, i ≤ j → j < k → la_l kd nd en s.1 s.2 (o j)) ?_ ?_ k (a_leastWidth, a_leastHeight) ⟨Nat.le_refl _, fun j h1 h2 => by omega⟩⟩
  · intro n s hs
    obtain ⟨lw, lh⟩ := s
    have L := bf_all O (fun j hj => hs.2 j (Nat.zero_le _) hj)
    have r15 := (T6 0 P.1).1
    have vr : vp_in f_root 15 := by rw [T3]; exact vi_15 r15
    have er : f_root.toNatClampNeg = nd 0 := by rw [T3]; exact cg_15 r15
    refine br_t (by decide) ⟨vr, nm_r (e' := upd a_rectX (nd 0) 0) (by rw [er]) ⟨vr, nm_r (e' := upd a_rectY (nd 0) 0) (by rw [er]) ⟨vr, nm_r (e' := upd a_rectW (nd 0) f_hostWidth) (by rw [er]) ⟨vr, nm_r (e' := upd a_rectH (nd 0) f_hostHeight) (by rw [er]) ?_⟩⟩⟩⟩
    exact xw_lay77 (a_leastWidth := lw) (a_leastHeight := lh) T O ord ⟨pk_us, pk_us, pk_us, pk_us, fun j h => by omega⟩ (fun rx ry rw rh E => K lw lh rx ry rw rh L E)
  · intro n i s hs kk
    obtain ⟨lw, lh⟩ := s
    obtain ⟨hi, hl⟩ := hs
    have oi := O.2.2.2.1 i (by omega)
    obtain ⟨t1, t2, t3, t4, t5⟩ := T6 (o i) oi
    have ep : nI (i + 1) - 1 = nI i := nI_pred i
    have em : nI (i + 1) - 1 + (-1) = nI i - 1 := by rw [ep, Int32.sub_eq_add_neg]
    refine br_f (by rw [ep]; exact nI_pos (by omega)) ⟨by rw [ep]; exact vi_15 (by omega), ?_⟩
    have eo : a_order (nI (i + 1) - 1).toNatClampNeg = nI (nd (o i)) := by rw [ep, cg_15 (by omega)]; exact ord i (by omega)
    rw [eo]
    rcases T5 (o i) oi with z | ⟨z | z, _⟩
    · refine xw_meas0 t1 (by rw [t3]; exact z) (nm_r em (kk (_, _) ⟨by omega, bf_ms P ND O (by omega) (fun j h1 h2 => hl j (by omega) h2) (fun _ => ⟨rfl, rfl⟩) (fun y => absurd z (ge_10 y)) (fun y => absurd z (ge_20 y))⟩))
    · have z0 := ge_10 z
      obtain ⟨u1, u2, u3, u4, u5, u6⟩ := t5 z0
      obtain ⟨a1, a2, a3, a4, a5, a6⟩ := ps_nd P oi z0
      refine xw_meas1 t1 (T6 _ a5).1 (T6 _ a6).1 u3 u4 (by rw [t3]; exact z) (nm_r em (kk (_, _) ⟨by omega, bf_ms P ND O (by omega) (fun j h1 h2 => hl j (by omega) h2) (fun y => absurd y z0) (fun _ => ⟨rfl, rfl⟩) (fun y => (ge_12 z y).elim)⟩))
    · have z0 := ge_20 z
      obtain ⟨u1, u2, u3, u4, u5, u6⟩ := t5 z0
      obtain ⟨a1, a2, a3, a4, a5, a6⟩ := ps_nd P oi z0
      refine xw_meas2 t1 (T6 _ a5).1 (T6 _ a6).1 u3 u4 (by rw [t3]; exact z) (nm_r em (kk (_, _) ⟨by omega, bf_ms P ND O (by omega) (fun j h1 h2 => hl j (by omega) h2) (fun y => absurd y z0) (fun y => (ge_12 y z).elim) (fun _ => ⟨rfl, rfl⟩)⟩))
/-- the component's layout: least sizes and rectangles as the tree asks -/
theorem xw_layOut {post : St2 → Prop} (T : tr_T c nd en po f_root a_parent a_first a_second a_orientation a_share kd vl)
    (K : ∀ lw lh rx ry rw rh ord, la_L c kd nd en lw lh → la_E c kd vl nd en lw lh rx ry rw rh f_hostWidth f_hostHeight → post (f_hostWidth, f_hostHeight, f_root, f_focusedPane, f_liveCount, a_parent, a_first, a_second, a_orientation, a_share, lw, lh, rx, ry, rw, rh, ord, a_live, a_screenWidth, a_screenHeight, a_cursorRow, a_cursorCol, a_regionTop, a_regionBottom, a_parserMode, a_paramOne, a_paramTwo, a_paramIndex, a_cells)) : wpX_layOut post (f_hostWidth, f_hostHeight, f_root, f_focusedPane, f_liveCount, a_parent, a_first, a_second, a_orientation, a_share, a_leastWidth, a_leastHeight, a_rectX, a_rectY, a_rectW, a_rectH, a_order, a_live, a_screenWidth, a_screenHeight, a_cursorRow, a_cursorCol, a_regionTop, a_regionBottom, a_parserMode, a_paramOne, a_paramTwo, a_paramIndex, a_cells) := by
  unfold wpX_layOut
  exact xw_order T (fun k o ord O ho => nm_e (xw_lay9 (a_order := ord) T O ho (fun lw lh rx ry rw rh L E => K lw lh rx ry rw rh ord L E)))
end XM
