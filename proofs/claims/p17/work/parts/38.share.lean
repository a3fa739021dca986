section SH
variable {f_hostWidth f_hostHeight f_root f_focusedPane f_liveCount : Int32} {a_parent a_first a_second a_orientation a_share a_leastWidth a_leastHeight a_rectX a_rectY a_rectW a_rectH a_order a_live a_screenWidth a_screenHeight a_cursorRow a_cursorCol a_regionTop a_regionBottom a_parserMode a_paramOne a_paramTwo a_paramIndex a_cells : Nat → Int32}
variable {c : Nat} {nd en po : Nat → Nat} {kd vl : Nat → Int32}
theorem xw_climb {post : Int32 → St2 → Prop} {p : Nat} {o pc : Int32} (T : tr_T c nd en po f_root a_parent a_first a_second a_orientation a_share kd vl) (hp : p < c) (kp : kd p = 0) (ho : o ≠ 0) (hf : f_focusedPane = nI (nd p)) (K0 : an_0 kd en o p → post 0 (f_hostWidth, f_hostHeight, f_root, f_focusedPane, f_liveCount, a_parent, a_first, a_second, a_orientation, a_share, a_leastWidth, a_leastHeight, a_rectX, a_rectY, a_rectW, a_rectH, a_order, a_live, a_screenWidth, a_screenHeight, a_cursorRow, a_cursorCol, a_regionTop, a_regionBottom, a_parserMode, a_paramOne, a_paramTwo, a_paramIndex, a_cells)) (K1 : ∀ b, an_B kd en o p b → wX_setShare_60 post pc (nI (nd b)) f_hostWidth f_hostHeight f_root f_focusedPane f_liveCount a_parent a_first a_second a_orientation a_share a_leastWidth a_leastHeight a_rectX a_rectY a_rectW a_rectH a_order a_live a_screenWidth a_screenHeight a_cursorRow a_cursorCol a_regionTop a_regionBottom a_parserMode a_paramOne a_paramTwo a_paramIndex a_cells) : wX_setShare_12 post o pc f_hostWidth f_hostHeight f_root f_focusedPane f_liveCount a_parent a_first a_second a_orientation a_share a_leastWidth a_leastHeight a_rectX a_rectY a_rectW a_rectH a_order a_live a_screenWidth a_screenHeight a_cursorRow a_cursorCol a_regionTop a_regionBottom a_parserMode a_paramOne a_paramTwo a_paramIndex a_cells := by
  subst hf
  obtain ⟨P, T2, T3, T4, T5, T6, T7⟩ := id T
  have p15 := (T6 p hp).1
  refine ⟨vi_15 p15, ?_⟩
  rw [cg_15 p15]
  refine nm_e ?_
  have pe := (P.2.2 p hp).1
  refine lp2 (fun n q i => wX_setShare_25 post o pc f_hostWidth f_hostHeight f_root (nI (nd p)) f_liveCount a_parent a_first a_second a_orientation a_share a_leastWidth a_leastHeight a_rectX a_rectY a_rectW a_rectH a_order a_live a_screenWidth a_screenHeight a_cursorRow a_cursorCol a_regionTop a_regionBottom a_parserMode a_paramOne a_paramTwo a_paramIndex a_cells n (a_parent (nd q)) (nI i)) (fun q i => q < c ∧ an_I kd en o p q ∧ i + q ≤ p) (fun q i => q) ?_ p 0 ⟨hp, ⟨Nat.le_refl _, pe, fun j h1 h2 => by omega⟩, by omega⟩
  intro n q i hI IH
  obtain ⟨i1, i2, i3⟩ := hI
  refine br_f (nI_ge (b := 15) (by omega) (by omega)) ?_
  rcases pu_w T i1 with ⟨q0, e⟩ | ⟨u, hu, hk, uq, e, u15, h⟩
  · rw [e]
    subst q0
    exact br_t rfl (br_t rfl (K0 (fun j hj => i2.2.2 j (Nat.zero_le _) hj)))
  · rw [e]
    have nm := tr_m1 (n := nd u) (by omega)
    have ch : ps_ch kd en c u q := ⟨hu, hk, by rcases h with h | h; exact Or.inl h.1; exact Or.inr h.1⟩
    refine br_f nm ⟨vi_15 u15, ?_⟩
    rw [cg_15 u15, (T6 u hu).2.2.1]
    by_cases z : kd u = o
    · exact br_t z (K1 u (an_hit P i2 ch z))
    · exact br_f z ⟨vi_15 u15, nm_e (nm_r (nI_1 i) (IH u (i + 1) ⟨hu, an_up P i2 ch z, by omega⟩ uq))⟩
end SH
