section NX
variable {f_hostWidth f_hostHeight f_root f_focusedPane f_liveCount : Int32} {a_parent a_first a_second a_orientation a_share a_leastWidth a_leastHeight a_rectX a_rectY a_rectW a_rectH a_order a_live a_screenWidth a_screenHeight a_cursorRow a_cursorCol a_regionTop a_regionBottom a_parserMode a_paramOne a_paramTwo a_paramIndex a_cells : Nat → Int32}
variable {c : Nat} {nd en po : Nat → Nat} {kd vl : Nat → Int32}
theorem xw_fleaf {post : Int32 → Prop} {j d : Nat} (T : tr_T c nd en po f_root a_parent a_first a_second a_orientation a_share kd vl) (h1 : j + d < c) (h2 : kd (j + d) = 0) (h3 : ∀ t, t < d → kd (j + t) ≠ 0) (K : post (nI (nd (j + d)))) : wpX_firstLeaf post (f_hostWidth, f_hostHeight, f_root, f_focusedPane, f_liveCount, a_parent, a_first, a_second, a_orientation, a_share, a_leastWidth, a_leastHeight, a_rectX, a_rectY, a_rectW, a_rectH, a_order, a_live, a_screenWidth, a_screenHeight, a_cursorRow, a_cursorCol, a_regionTop, a_regionBottom, a_parserMode, a_paramOne, a_paramTwo, a_paramIndex, a_cells) (nI (nd j)) := by
  obtain ⟨P, T2, T3, T4, T5, T6, T7⟩ := id T
  have main : ∀ dd t, t + dd = d → wX_firstLeaf_4 post f_hostWidth f_hostHeight f_root f_focusedPane f_liveCount a_parent a_first a_second a_orientation a_share a_leastWidth a_leastHeight a_rectX a_rectY a_rectW a_rectH a_order a_live a_screenWidth a_screenHeight a_cursorRow a_cursorCol a_regionTop a_regionBottom a_parserMode a_paramOne a_paramTwo a_paramIndex a_cells (dd + 1) (nI (nd (j + t))) (nI t) := by
    intro dd
    induction dd with
    | zero =>
      intro t ht
      have e : t = d := by omega
      subst e
      obtain ⟨t1, t2, t3, t4, t5⟩ := T6 (j + t) h1
      refine br_f (nI_ge (b := 15) (by omega) (by omega)) ⟨vi_15 t1, ?_⟩
      rw [cg_15 t1, t3]
      exact br_t h2 K
    | succ dd ih =>
      intro t ht
      have IH := ih (t + 1) (by omega)
      obtain ⟨t1, t2, t3, t4, t5⟩ := T6 (j + t) (by omega)
      have z := h3 t (by omega)
      obtain ⟨u1, u2, u3, u4, u5, u6⟩ := t5 z
      refine br_f (nI_ge (b := 15) (by omega) (by omega)) ⟨vi_15 t1, ?_⟩
      rw [cg_15 t1, t3]
      exact br_f z ⟨vi_15 t1, nm_r u3 (nm_r (nI_1 t) IH)⟩
  exact ⟨d + 1, main d 0 (by omega)⟩
theorem xw_next {post : Int32 → St2 → Prop} {p : Nat} (T : tr_T c nd en po f_root a_parent a_first a_second a_orientation a_share kd vl) (hp : p < c) (kp : kd p = 0) (hf : f_focusedPane = nI (nd p)) (K : ∀ n, fn_N c kd p n → post (nI (nd n)) (f_hostWidth, f_hostHeight, f_root, nI (nd n), f_liveCount, a_parent, a_first, a_second, a_orientation, a_share, a_leastWidth, a_leastHeight, a_rectX, a_rectY, a_rectW, a_rectH, a_order, a_live, a_screenWidth, a_screenHeight, a_cursorRow, a_cursorCol, a_regionTop, a_regionBottom, a_parserMode, a_paramOne, a_paramTwo, a_paramIndex, a_cells)) : wpX_focusNext post (f_hostWidth, f_hostHeight, f_root, f_focusedPane, f_liveCount, a_parent, a_first, a_second, a_orientation, a_share, a_leastWidth, a_leastHeight, a_rectX, a_rectY, a_rectW, a_rectH, a_order, a_live, a_screenWidth, a_screenHeight, a_cursorRow, a_cursorCol, a_regionTop, a_regionBottom, a_parserMode, a_paramOne, a_paramTwo, a_paramIndex, a_cells) := by
  subst hf
  obtain ⟨P, T2, T3, T4, T5, T6, T7⟩ := id T
  subst T3
  have p15 := (T6 p hp).1
  refine ⟨vi_15 p15, ?_⟩
  rw [cg_15 p15]
  refine nm_e ?_
  refine lp2 (fun n q i => wX_focusNext_14 post f_hostWidth f_hostHeight (nI (nd 0)) (nI (nd p)) f_liveCount a_parent a_first a_second a_orientation a_share a_leastWidth a_leastHeight a_rectX a_rectY a_rectW a_rectH a_order a_live a_screenWidth a_screenHeight a_cursorRow a_cursorCol a_regionTop a_regionBottom a_parserMode a_paramOne a_paramTwo a_paramIndex a_cells n (nI (nd q)) (a_parent (nd q)) (nI i)) (fun q i => q < c ∧ en q = p + 1 ∧ i + q ≤ p) (fun q i => q) ?_ p 0 ⟨hp, ps_lf P hp kp, by omega⟩
  intro n q i hI IH
  obtain ⟨i1, i2, i3⟩ := hI
  refine br_f (nI_ge (b := 15) (by omega) (by omega)) ?_
  rcases pu_w T i1 with ⟨q0, e⟩ | ⟨u, hu, hk, uq, e, u15, h⟩
  · rw [e]
    refine br_t rfl (br_t rfl ?_)
    have pc : p + 1 = c := by rw [q0, P.2.1] at i2; exact i2.symm
    obtain ⟨d, d1, d2, d3⟩ := fn_fl P P.1
    unfold wX_focusNext_68
    refine xw_fleaf (j := 0) (d := d) T d1 d2 d3 ?_
    rw [Nat.zero_add] at *
    exact K d (fn_b pc d1 d2 (fun t ht => by have := d3 t ht; rw [Nat.zero_add] at this; exact this))
  · rw [e]
    have nm := tr_m1 (n := nd u) (by omega)
    obtain ⟨a1, a2, a3, a4, a5, a6⟩ := ps_nd P hu hk
    obtain ⟨w1, w2, w3, w4, w5, w6⟩ := (T6 u hu).2.2.2.2 hk
    refine br_f nm ⟨vi_15 u15, ?_⟩
    rw [cg_15 u15, w4]
    rcases h with ⟨hq, _⟩ | ⟨hq, _⟩
    · have ne : ¬ nI (nd (en (u + 1))) = nI (nd q) := by
        intro y
        have b1 := (T6 _ a6).1
        have b2 := (T6 _ i1).1
        have := tr_inj T a6 i1 ((nI_eq (by omega) (by omega)).mp y)
        omega
      refine br_f ne (br_f nm ⟨vi_15 u15, ?_⟩)
      rw [cg_15 u15, w4]
      have ep : en (u + 1) = p + 1 := by rw [← hq]; exact i2
      rw [ep] at a6 ⊢
      obtain ⟨d, d1, d2, d3⟩ := fn_fl P a6
      unfold wX_focusNext_68
      exact xw_fleaf T d1 d2 d3 (K _ (fn_a d1 d2 d3))
    · refine br_t (by rw [hq]) ⟨vi_15 u15, ?_⟩
      refine nm_e (nm_r (nI_1 i) (IH u (i + 1) ⟨hu, ?_, by omega⟩ uq))
      rw [← a4, ← hq]; exact i2
end NX
