section HC
variable {f_hostWidth f_hostHeight f_root f_focusedPane f_liveCount : Int32} {a_parent a_first a_second a_orientation a_share a_leastWidth a_leastHeight a_rectX a_rectY a_rectW a_rectH a_order a_live a_screenWidth a_screenHeight a_cursorRow a_cursorCol a_regionTop a_regionBottom a_parserMode a_paramOne a_paramTwo a_paramIndex a_cells : Nat → Int32}
variable {c : Nat} {kd vl : Nat → Int32} {nd en po : Nat → Nat} {w0 h0 : Nat}
/-- what an object keeps, as far as its reading methods need it -/
def ov_V (f_hostWidth f_hostHeight f_root f_focusedPane f_liveCount : Int32) (a_parent a_first a_second a_orientation a_share a_leastWidth a_leastHeight a_rectX a_rectY a_rectW a_rectH a_order a_live a_screenWidth a_screenHeight a_cursorRow a_cursorCol a_regionTop a_regionBottom a_parserMode a_paramOne a_paramTwo a_paramIndex a_cells : Nat → Int32) (c : Nat) (kd vl : Nat → Int32) (nd en po : Nat → Nat) (w0 h0 : Nat) : Prop :=
  f_hostWidth = nI w0 ∧ f_hostHeight = nI h0 ∧ f_liveCount = nI (cc_n (fun g => a_live g ≠ 0) 8) ∧ rl_G c nd en po w0 h0 f_root a_parent a_first a_second a_orientation a_share a_leastWidth a_leastHeight a_rectX a_rectY a_rectW a_rectH kd vl a_live ∧ ∀ g, g < 8 → a_live g ≠ 0 → a_screenWidth g = a_rectW g ∧ a_screenHeight g = a_rectH g ∧ ce_H (g * 288) a_cells
theorem xo_hcin {post : Int32 → Prop} {g r s : Nat} (V : ov_V f_hostWidth f_hostHeight f_root f_focusedPane f_liveCount a_parent a_first a_second a_orientation a_share a_leastWidth a_leastHeight a_rectX a_rectY a_rectW a_rectH a_order a_live a_screenWidth a_screenHeight a_cursorRow a_cursorCol a_regionTop a_regionBottom a_parserMode a_paramOne a_paramTwo a_paramIndex a_cells c kd vl nd en po w0 h0) (hg : g < 8) (hl : a_live g ≠ 0) (hin : vw_in a_rectX a_rectY a_rectW a_rectH g r s) (K : post (a_cells (g * 288 + (r - vw_n a_rectY g) * 24 + (s - vw_n a_rectX g)))) : wpX_hostChar post (f_hostWidth, f_hostHeight, f_root, f_focusedPane, f_liveCount, a_parent, a_first, a_second, a_orientation, a_share, a_leastWidth, a_leastHeight, a_rectX, a_rectY, a_rectW, a_rectH, a_order, a_live, a_screenWidth, a_screenHeight, a_cursorRow, a_cursorCol, a_regionTop, a_regionBottom, a_parserMode, a_paramOne, a_paramTwo, a_paramIndex, a_cells) (nI r) (nI s) := by
  obtain ⟨rfl, rfl, _, G, S⟩ := V
  obtain ⟨s1, s2, s3, s4, s5, s6, s7, s8, s9, s10⟩ := vw_sz G hg hl
  obtain ⟨c1, c2, c3⟩ := S g hg hl
  have v15 : vp_in (nI g) 15 := vi_15 (by omega)
  have e : (nI g).toNatClampNeg = g := cg_15 (by omega)
  have hin' := hin
  unfold vw_in at hin'
  unfold wpX_hostChar
  refine xo_own G (by omega) (by omega) (fun g' hg' hl' hin2 => ?_) (fun no => absurd hin (no g hg hl))
  have eg := vw_un G hg' hl' hg hl hin2 hin
  subst eg
  refine br_f (fun z => by have := nI_pos (n := g') (by omega); rw [z] at this; exact this (by decide)) (br_f (tr_m1 (by omega)) ⟨v15, v15, ?_⟩)
  rw [e, s1, s2, pk_sub (by omega), pk_sub (by omega)]
  obtain ⟨n, hn, en'⟩ := c3 (g' * 288 + (r - vw_n a_rectY g') * 24 + (s - vw_n a_rectX g')) (by omega) (by omega)
  refine xo_pc (w := vw_n a_rectW g') (h := vw_n a_rectH g') hg' hl' (c1.trans s3) (c2.trans s4) (by omega) (by omega) c3 (by omega) (by omega) ⟨?_, K⟩
  rw [en']
  exact (pk_charN hn).1
theorem xo_hcbd {post : Int32 → Prop} {j r s : Nat} {X Y W H mw mh : Nat → Nat} (V : ov_V f_hostWidth f_hostHeight f_root f_focusedPane f_liveCount a_parent a_first a_second a_orientation a_share a_leastWidth a_leastHeight a_rectX a_rectY a_rectW a_rectH a_order a_live a_screenWidth a_screenHeight a_cursorRow a_cursorCol a_regionTop a_regionBottom a_parserMode a_paramOne a_paramTwo a_paramIndex a_cells c kd vl nd en po w0 h0) (N : la_N c nd a_leastWidth a_leastHeight a_rectX a_rectY a_rectW a_rectH w0 h0 X Y W H mw mh) (GG : ge_G c kd en X Y W H) (hr : r < h0) (hs : s < w0) (no : ∀ g, g < 8 → a_live g ≠ 0 → ¬ vw_in a_rectX a_rectY a_rectW a_rectH g r s) (jc : j < c) (bd : ge_bd kd X Y W H r s j) (K : post (if kd j = 1 then 124 else 45)) : wpX_hostChar post (f_hostWidth, f_hostHeight, f_root, f_focusedPane, f_liveCount, a_parent, a_first, a_second, a_orientation, a_share, a_leastWidth, a_leastHeight, a_rectX, a_rectY, a_rectW, a_rectH, a_order, a_live, a_screenWidth, a_screenHeight, a_cursorRow, a_cursorCol, a_regionTop, a_regionBottom, a_parserMode, a_paramOne, a_paramTwo, a_paramIndex, a_cells) (nI r) (nI s) := by
  obtain ⟨rfl, rfl, _, G, S⟩ := V
  have P := G.1.1
  have b1 := G.2.2.2.2.1
  have b2 := G.2.2.2.2.2.2.1
  unfold wpX_hostChar
  refine xo_own G hr hs (fun g hg hl hin => absurd hin (no g hg hl)) (fun _ => br_f (by decide) (br_t rfl ?_))
  by_cases kj : kd j = 1
  · rw [if_pos kj] at K
    exact xw_border1 G.1 b1 b2 N GG (by omega) (by omega) jc kj bd ⟨(pk_charN (q := 124) (by omega)).1, K⟩
  · rw [if_neg kj] at K
    refine xw_border2 G.1 b1 b2 N GG (by omega) (by omega) (fun i hi ki b => ?_) ⟨(pk_charN (q := 45) (by omega)).1, K⟩
    have e := ge_one P GG 0 P.1 i j (Nat.zero_le _) (by rw [P.2.1]; exact hi) (Nat.zero_le _) (by rw [P.2.1]; exact jc) b bd
    subst e
    exact kj ki
theorem xo_hcout {post : Int32 → Prop} {r s : Nat} (V : ov_V f_hostWidth f_hostHeight f_root f_focusedPane f_liveCount a_parent a_first a_second a_orientation a_share a_leastWidth a_leastHeight a_rectX a_rectY a_rectW a_rectH a_order a_live a_screenWidth a_screenHeight a_cursorRow a_cursorCol a_regionTop a_regionBottom a_parserMode a_paramOne a_paramTwo a_paramIndex a_cells c kd vl nd en po w0 h0) (hr : r < 2 ^ 31) (hs : s < 2 ^ 31) (o : h0 ≤ r ∨ w0 ≤ s) (K : post 0) : wpX_hostChar post (f_hostWidth, f_hostHeight, f_root, f_focusedPane, f_liveCount, a_parent, a_first, a_second, a_orientation, a_share, a_leastWidth, a_leastHeight, a_rectX, a_rectY, a_rectW, a_rectH, a_order, a_live, a_screenWidth, a_screenHeight, a_cursorRow, a_cursorCol, a_regionTop, a_regionBottom, a_parserMode, a_paramOne, a_paramTwo, a_paramIndex, a_cells) (nI r) (nI s) := by
  obtain ⟨rfl, rfl, _, G, S⟩ := V
  have b1 := G.2.2.2.2.1
  have b2 := G.2.2.2.2.2.2.1
  unfold wpX_hostChar
  refine br_f (nI_pos hr) ?_
  by_cases z : h0 ≤ r
  · exact br_t (nI_le z hr) (br_t rfl K)
  · exact br_f (nI_ge (by omega) (by omega)) (br_f (nI_pos hs) (br_f (nI_nlt (by omega) hs) (br_t rfl K)))
/-- is the cell in the rectangle of pane p -/
theorem xo_rect {post : Int32 → Prop} {r s : Nat} {p : Int32} (V : ov_V f_hostWidth f_hostHeight f_root f_focusedPane f_liveCount a_parent a_first a_second a_orientation a_share a_leastWidth a_leastHeight a_rectX a_rectY a_rectW a_rectH a_order a_live a_screenWidth a_screenHeight a_cursorRow a_cursorCol a_regionTop a_regionBottom a_parserMode a_paramOne a_paramTwo a_paramIndex a_cells c kd vl nd en po w0 h0) (hr : r < 2 ^ 31) (hs : s < 2 ^ 31) (K1 : ∀ g, g < 8 → p = nI g → a_live g ≠ 0 → vw_in a_rectX a_rectY a_rectW a_rectH g r s → post 1) (K0 : (∀ g, g < 8 → p = nI g → a_live g ≠ 0 → ¬ vw_in a_rectX a_rectY a_rectW a_rectH g r s) → post 0) : wpL_inRect post (f_hostWidth, f_hostHeight, f_root, f_focusedPane, f_liveCount, a_parent, a_first, a_second, a_orientation, a_share, a_leastWidth, a_leastHeight, a_rectX, a_rectY, a_rectW, a_rectH, a_order, a_live, a_screenWidth, a_screenHeight, a_cursorRow, a_cursorCol, a_regionTop, a_regionBottom, a_parserMode, a_paramOne, a_paramTwo, a_paramIndex, a_cells) p (nI r) (nI s) := by
  obtain ⟨_, _, _, G, S⟩ := V
  unfold wpL_inRect
  rcases pd_or a_live p with D | ⟨g, hg, e, hl⟩
  · refine xr_dead D (xr_dead D (xr_dead D (xr_dead D (br_f (by decide) (K0 (fun g hg e hl => ?_))))))
    subst e
    rcases D with h | h | ⟨g', hg', e', z⟩
    · exact absurd h (nI_pos (by omega))
    · exact absurd h (nI_ge (b := 8) hg (by omega))
    · have := (nI_eq (by omega) (by omega)).mp e'
      subst this
      exact absurd z hl
  · subst e
    obtain ⟨s1, s2, s3, s4, s5, s6, s7, s8, s9, s10⟩ := vw_sz G hg hl
    have uq : ∀ g', g' < 8 → nI g = nI g' → g' = g := fun g' h' e' => ((nI_eq (by omega) (by omega)).mp e').symm
    have K1' := K1 g hg rfl hl
    have K0' : ¬ vw_in a_rectX a_rectY a_rectW a_rectH g r s → post 0 := fun n => K0 (fun g' hg' e' _ => by rw [uq g' hg' e']; exact n)
    unfold vw_in at K1' K0'
    refine xr_0 hg hl (xr_1 hg hl (xr_2 hg hl (xr_3 hg hl ?_)))
    rw [s1, s2, s3, s4, nI_add, nI_add]
    refine br_t (nI_pos' (by omega)) ?_
    refine pk_lt r (vw_n a_rectY g) (fun z => K0' (fun y => by omega)) (fun z => pk_le (vw_n a_rectY g + vw_n a_rectH g) r (fun z2 => K0' (fun y => by omega)) (fun z2 => pk_lt s (vw_n a_rectX g) (fun z3 => K0' (fun y => by omega)) (fun z3 => pk_le (vw_n a_rectX g + vw_n a_rectW g) s (fun z4 => K0' (fun y => by omega)) (fun z4 => K1' ⟨⟨z, z2⟩, ⟨z3, z4⟩⟩))))
end HC
