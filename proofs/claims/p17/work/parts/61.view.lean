def vw_n (A : Nat → Int32) : Nat → Nat := fun g => (A g).toNatClampNeg
/-- the cell (r, s) lies in pane g -/
def vw_in (rx ry rw rh : Nat → Int32) (g r s : Nat) : Prop := (vw_n ry g ≤ r ∧ r < vw_n ry g + vw_n rh g) ∧ (vw_n rx g ≤ s ∧ s < vw_n rx g + vw_n rw g)
theorem vw_e {A : Nat → Int32} {g n : Nat} (h : A g = nI n) (hn : n < 2 ^ 31) : vw_n A g = n := by
  unfold vw_n
  rw [h, nI_clamp hn]
theorem vw_sz {c : Nat} {nd en po : Nat → Nat} {w0 h0 : Nat} {root : Int32} {pa fi se ori sh lw lh rx ry rw rh kd vl lv : Nat → Int32} (G : rl_G c nd en po w0 h0 root pa fi se ori sh lw lh rx ry rw rh kd vl lv) {g : Nat} (hg : g < 8) (hl : lv g ≠ 0) :
    rx g = nI (vw_n rx g) ∧ ry g = nI (vw_n ry g) ∧ rw g = nI (vw_n rw g) ∧ rh g = nI (vw_n rh g) ∧ 1 ≤ vw_n rw g ∧ 1 ≤ vw_n rh g ∧ vw_n rx g + vw_n rw g ≤ w0 ∧ vw_n ry g + vw_n rh g ≤ h0 ∧ w0 ≤ 24 ∧ h0 ≤ 12 := by
  obtain ⟨x, y, w, h, s1, s2, s3, s4, s5, s6, s7, s8, s9, s10⟩ := rl_sz G hg hl
  have b1 := G.2.2.2.2.1
  have b2 := G.2.2.2.2.2.2.1
  rw [vw_e s1 (by omega), vw_e s2 (by omega), vw_e s3 (by omega), vw_e s4 (by omega)]
  exact ⟨s1, s2, s3, s4, s5, s7, s9, s10, b1, b2⟩
theorem vw_ge {c : Nat} {nd en po : Nat → Nat} {w0 h0 : Nat} {root : Int32} {pa fi se ori sh lw lh rx ry rw rh kd vl lv : Nat → Int32} {X Y W H mw mh : Nat → Nat} (G : rl_G c nd en po w0 h0 root pa fi se ori sh lw lh rx ry rw rh kd vl lv) (N : la_N c nd lw lh rx ry rw rh w0 h0 X Y W H mw mh) {q r s : Nat} (hq : q < c) : vw_in rx ry rw rh (nd q) r s ↔ ge_in X Y W H r s q := by
  obtain ⟨n1, n2, n3, n4, n5, n6, n7, n8, n9, n10, n11, n12⟩ := N q hq
  have b1 := G.2.2.2.2.1
  have b2 := G.2.2.2.2.2.2.1
  unfold vw_in ge_in
  rw [vw_e n3 (by omega), vw_e n4 (by omega), vw_e n5 (by omega), vw_e n6 (by omega)]
  constructor <;> intro z <;> omega
theorem vw_un {c : Nat} {nd en po : Nat → Nat} {w0 h0 : Nat} {root : Int32} {pa fi se ori sh lw lh rx ry rw rh kd vl lv : Nat → Int32} (G : rl_G c nd en po w0 h0 root pa fi se ori sh lw lh rx ry rw rh kd vl lv) {g g' r s : Nat} (hg : g < 8) (hl : lv g ≠ 0) (hg' : g' < 8) (hl' : lv g' ≠ 0) (h : vw_in rx ry rw rh g r s) (h' : vw_in rx ry rw rh g' r s) : g = g' := by
  obtain ⟨X, Y, W, H, mw, mh, N, GG⟩ := rl_nat G
  obtain ⟨q, hq, kq, e⟩ := rl_leaf G hg hl
  obtain ⟨q', hq', kq', e'⟩ := rl_leaf G hg' hl'
  subst e e'
  have P := G.1.1
  have := ge_two P GG 0 P.1 q q' (Nat.zero_le _) (by rw [P.2.1]; exact hq) (Nat.zero_le _) (by rw [P.2.1]; exact hq') kq kq' ((vw_ge G N hq).mp h) ((vw_ge G N hq').mp h')
  rw [this]
/-- a cell of the host that no pane holds lies on the border of one split -/
theorem vw_bd {c : Nat} {nd en po : Nat → Nat} {w0 h0 : Nat} {root : Int32} {pa fi se ori sh lw lh rx ry rw rh kd vl lv : Nat → Int32} {X Y W H mw mh : Nat → Nat} (G : rl_G c nd en po w0 h0 root pa fi se ori sh lw lh rx ry rw rh kd vl lv) (N : la_N c nd lw lh rx ry rw rh w0 h0 X Y W H mw mh) (GG : ge_G c kd en X Y W H) {r s : Nat} (hr : r < h0) (hs : s < w0) (no : ∀ g, g < 8 → lv g ≠ 0 → ¬ vw_in rx ry rw rh g r s) : ∃ j, j < c ∧ ge_bd kd X Y W H r s j := by
  obtain ⟨T, L, E, g1, g2, g3, g4, g5, g6, g7⟩ := id G
  obtain ⟨P, T2, T3, T4, T5, T6, T7⟩ := id T
  have in0 : ge_in X Y W H r s 0 := by
    obtain ⟨n1, n2, n3, n4, n5, n6, n7, n8, n9, n10, n11, n12⟩ := N 0 P.1
    obtain ⟨E1, E2, E3, E4, E5⟩ := E
    have q1 : X 0 = 0 := (nI_eq (by omega) (by omega)).mp (n3.symm.trans E1)
    have q2 : Y 0 = 0 := (nI_eq (by omega) (by omega)).mp (n4.symm.trans E2)
    have q3 : W 0 = w0 := (nI_eq (by omega) (by omega)).mp (n5.symm.trans E3)
    have q4 : H 0 = h0 := (nI_eq (by omega) (by omega)).mp (n6.symm.trans E4)
    unfold ge_in
    omega
  obtain ⟨j, _, jc, hj⟩ := ge_cov P GG 0 P.1 in0
  rw [P.2.1] at jc
  rcases hj with ⟨kj, ij⟩ | b
  · have nj := ((T6 j jc).2.2.2.1 kj).1
    exact absurd ((vw_ge G N jc).mpr ij) (no (nd j) nj ((g7 (nd j) nj).2.mpr ⟨j, jc, rfl⟩))
  · exact ⟨j, jc, b⟩
section VW
variable {f_hostWidth f_hostHeight f_root f_focusedPane f_liveCount : Int32} {a_parent a_first a_second a_orientation a_share a_leastWidth a_leastHeight a_rectX a_rectY a_rectW a_rectH a_order a_live a_screenWidth a_screenHeight a_cursorRow a_cursorCol a_regionTop a_regionBottom a_parserMode a_paramOne a_paramTwo a_paramIndex a_cells : Nat → Int32}
variable {c : Nat} {kd vl : Nat → Int32} {nd en po : Nat → Nat} {w0 h0 : Nat}
theorem xr_dead {post : Int32 → Prop} {p x : Int32} (D : pd_D a_live p) (K : post (-1)) : wpX_paneRect post (f_hostWidth, f_hostHeight, f_root, f_focusedPane, f_liveCount, a_parent, a_first, a_second, a_orientation, a_share, a_leastWidth, a_leastHeight, a_rectX, a_rectY, a_rectW, a_rectH, a_order, a_live, a_screenWidth, a_screenHeight, a_cursorRow, a_cursorCol, a_regionTop, a_regionBottom, a_parserMode, a_paramOne, a_paramTwo, a_paramIndex, a_cells) p x := by
  unfold wpX_paneRect
  exact xw_dead D (br_t rfl K)
theorem xr_0 {post : Int32 → Prop} {g : Nat} (hg : g < 8) (hl : a_live g ≠ 0) (K : post (a_rectX g)) : wpX_paneRect post (f_hostWidth, f_hostHeight, f_root, f_focusedPane, f_liveCount, a_parent, a_first, a_second, a_orientation, a_share, a_leastWidth, a_leastHeight, a_rectX, a_rectY, a_rectW, a_rectH, a_order, a_live, a_screenWidth, a_screenHeight, a_cursorRow, a_cursorCol, a_regionTop, a_regionBottom, a_parserMode, a_paramOne, a_paramTwo, a_paramIndex, a_cells) (nI g) 0 := by
  unfold wpX_paneRect
  rw [← cg_8 hg] at K
  exact xw_live hg hl (br_f (by decide) (br_f (by decide) (br_f (by decide) (br_t rfl ⟨vi_15 (by omega), K⟩))))
theorem xr_1 {post : Int32 → Prop} {g : Nat} (hg : g < 8) (hl : a_live g ≠ 0) (K : post (a_rectY g)) : wpX_paneRect post (f_hostWidth, f_hostHeight, f_root, f_focusedPane, f_liveCount, a_parent, a_first, a_second, a_orientation, a_share, a_leastWidth, a_leastHeight, a_rectX, a_rectY, a_rectW, a_rectH, a_order, a_live, a_screenWidth, a_screenHeight, a_cursorRow, a_cursorCol, a_regionTop, a_regionBottom, a_parserMode, a_paramOne, a_paramTwo, a_paramIndex, a_cells) (nI g) 1 := by
  unfold wpX_paneRect
  rw [← cg_8 hg] at K
  exact xw_live hg hl (br_f (by decide) (br_f (by decide) (br_f (by decide) (br_f (by decide) (br_t rfl ⟨vi_15 (by omega), K⟩)))))
theorem xr_2 {post : Int32 → Prop} {g : Nat} (hg : g < 8) (hl : a_live g ≠ 0) (K : post (a_rectW g)) : wpX_paneRect post (f_hostWidth, f_hostHeight, f_root, f_focusedPane, f_liveCount, a_parent, a_first, a_second, a_orientation, a_share, a_leastWidth, a_leastHeight, a_rectX, a_rectY, a_rectW, a_rectH, a_order, a_live, a_screenWidth, a_screenHeight, a_cursorRow, a_cursorCol, a_regionTop, a_regionBottom, a_parserMode, a_paramOne, a_paramTwo, a_paramIndex, a_cells) (nI g) 2 := by
  unfold wpX_paneRect
  rw [← cg_8 hg] at K
  exact xw_live hg hl (br_f (by decide) (br_f (by decide) (br_f (by decide) (br_f (by decide) (br_f (by decide) (br_t rfl ⟨vi_15 (by omega), K⟩))))))
theorem xr_3 {post : Int32 → Prop} {g : Nat} (hg : g < 8) (hl : a_live g ≠ 0) (K : post (a_rectH g)) : wpX_paneRect post (f_hostWidth, f_hostHeight, f_root, f_focusedPane, f_liveCount, a_parent, a_first, a_second, a_orientation, a_share, a_leastWidth, a_leastHeight, a_rectX, a_rectY, a_rectW, a_rectH, a_order, a_live, a_screenWidth, a_screenHeight, a_cursorRow, a_cursorCol, a_regionTop, a_regionBottom, a_parserMode, a_paramOne, a_paramTwo, a_paramIndex, a_cells) (nI g) 3 := by
  unfold wpX_paneRect
  rw [← cg_8 hg] at K
  exact xw_live hg hl (br_f (by decide) (br_f (by decide) (br_f (by decide) (br_f (by decide) (br_f (by decide) (br_f (by decide) (br_t rfl ⟨vi_15 (by omega), K⟩)))))))
theorem xo_ins {post : Int32 → Prop} {g r s : Nat} (G : rl_G c nd en po w0 h0 f_root a_parent a_first a_second a_orientation a_share a_leastWidth a_leastHeight a_rectX a_rectY a_rectW a_rectH kd vl a_live) (hg : g < 8) (hl : a_live g ≠ 0) (hr : r < 2 ^ 31) (hs : s < 2 ^ 31) (K1 : vw_in a_rectX a_rectY a_rectW a_rectH g r s → post 1) (K0 : ¬ vw_in a_rectX a_rectY a_rectW a_rectH g r s → post 0) : wpX_isInside post (f_hostWidth, f_hostHeight, f_root, f_focusedPane, f_liveCount, a_parent, a_first, a_second, a_orientation, a_share, a_leastWidth, a_leastHeight, a_rectX, a_rectY, a_rectW, a_rectH, a_order, a_live, a_screenWidth, a_screenHeight, a_cursorRow, a_cursorCol, a_regionTop, a_regionBottom, a_parserMode, a_paramOne, a_paramTwo, a_paramIndex, a_cells) (nI g) (nI r) (nI s) := by
  obtain ⟨s1, s2, s3, s4, s5, s6, s7, s8, s9, s10⟩ := vw_sz G hg hl
  have v15 : vp_in (nI g) 15 := vi_15 (by omega)
  have e : (nI g).toNatClampNeg = g := cg_15 (by omega)
  unfold vw_in at K1 K0
  refine ⟨v15, nm_r (e' := nI (vw_n a_rectX g)) (by rw [e]; exact s1) ⟨v15, nm_r (e' := nI (vw_n a_rectY g)) (by rw [e]; exact s2) ?_⟩⟩
  rw [e, s3, s4, nI_add, nI_add]
  refine pk_lt r (vw_n a_rectY g) (fun z => K0 (fun y => by omega)) (fun z => ⟨v15, pk_le (vw_n a_rectY g + vw_n a_rectH g) r (fun z2 => K0 (fun y => by omega)) (fun z2 => pk_lt s (vw_n a_rectX g) (fun z3 => K0 (fun y => by omega)) (fun z3 => ⟨v15, pk_le (vw_n a_rectX g + vw_n a_rectW g) s (fun z4 => K0 (fun y => by omega)) (fun z4 => K1 ⟨⟨z, z2⟩, ⟨z3, z4⟩⟩)⟩))⟩)
/-- the owner of a cell of the host -/
theorem xo_own {post : Int32 → Prop} {r s : Nat} (G : rl_G c nd en po w0 h0 f_root a_parent a_first a_second a_orientation a_share a_leastWidth a_leastHeight a_rectX a_rectY a_rectW a_rectH kd vl a_live) (hr : r < h0) (hs : s < w0) (K1 : ∀ g, g < 8 → a_live g ≠ 0 → vw_in a_rectX a_rectY a_rectW a_rectH g r s → post (nI g)) (K0 : (∀ g, g < 8 → a_live g ≠ 0 → ¬ vw_in a_rectX a_rectY a_rectW a_rectH g r s) → post (-1)) : wpX_hostOwner post (nI w0, nI h0, f_root, f_focusedPane, f_liveCount, a_parent, a_first, a_second, a_orientation, a_share, a_leastWidth, a_leastHeight, a_rectX, a_rectY, a_rectW, a_rectH, a_order, a_live, a_screenWidth, a_screenHeight, a_cursorRow, a_cursorCol, a_regionTop, a_regionBottom, a_parserMode, a_paramOne, a_paramTwo, a_paramIndex, a_cells) (nI r) (nI s) := by
  have b1 := G.2.2.2.2.1
  have b2 := G.2.2.2.2.2.2.1
  have main : ∀ dd i, i + dd = 8 → (∀ j, j < i → a_live j ≠ 0 → ¬ vw_in a_rectX a_rectY a_rectW a_rectH j r s) → wX_hostOwner_29 post (nI r) (nI s) (nI w0) (nI h0) f_root f_focusedPane f_liveCount a_parent a_first a_second a_orientation a_share a_leastWidth a_leastHeight a_rectX a_rectY a_rectW a_rectH a_order a_live a_screenWidth a_screenHeight a_cursorRow a_cursorCol a_regionTop a_regionBottom a_parserMode a_paramOne a_paramTwo a_paramIndex a_cells (dd + 1) (nI i) := by
    intro dd
    induction dd with
    | zero =>
      intro i hi no
      have e : i = 8 := by omega
      subst e
      exact br_t (nI_le (a := 8) (Nat.le_refl _) (by omega)) (K0 no)
    | succ dd ih =>
      intro i hi no
      have h8 : i < 8 := by omega
      have nx : (a_live i ≠ 0 → ¬ vw_in a_rectX a_rectY a_rectW a_rectH i r s) → ∀ j, j < i + 1 → a_live j ≠ 0 → ¬ vw_in a_rectX a_rectY a_rectW a_rectH j r s := by
        intro h j hj
        by_cases z : j = i
        · rw [z]; exact h
        · exact no j (by omega)
      refine br_f (nI_ge (b := 8) h8 (by omega)) ⟨vi_8 h8, ?_⟩
      rw [cg_8 h8]
      by_cases z : a_live i = 0
      · exact br_t z (nm_r (nI_1 i) (ih (i + 1) (by omega) (nx (fun y => absurd z y))))
      · exact br_f z (xo_ins G h8 z (by omega) (by omega) (fun y => br_f (by decide) (K1 i h8 z y)) (fun y => br_t rfl (nm_r (nI_1 i) (ih (i + 1) (by omega) (nx (fun _ => y))))))
  exact br_f (nI_pos (by omega)) (br_f (nI_ge hr (by omega)) (br_f (nI_pos (by omega)) (br_t (nI_lt hs (by omega)) ⟨9, main 8 0 (by omega) (fun j hj => by omega)⟩)))
/-- a cell of a live pane's screen -/
theorem xo_pc {post : Int32 → Prop} {g r s w h : Nat} (hg : g < 8) (hl : a_live g ≠ 0) (hw : a_screenWidth g = nI w) (hh : a_screenHeight g = nI h) (w4 : w ≤ 24) (h4 : h ≤ 12) (H : ce_H (g * 288) a_cells) (hr : r < h) (hs : s < w) (K : post (a_cells (g * 288 + r * 24 + s))) : wpX_paneChar post (f_hostWidth, f_hostHeight, f_root, f_focusedPane, f_liveCount, a_parent, a_first, a_second, a_orientation, a_share, a_leastWidth, a_leastHeight, a_rectX, a_rectY, a_rectW, a_rectH, a_order, a_live, a_screenWidth, a_screenHeight, a_cursorRow, a_cursorCol, a_regionTop, a_regionBottom, a_parserMode, a_paramOne, a_paramTwo, a_paramIndex, a_cells) (nI g) (nI r) (nI s) := by
  have v8 := vi_8 hg
  have e := cg_8 hg
  obtain ⟨n, hn, en⟩ := H (g * 288 + r * 24 + s) (by omega) (by omega)
  unfold wpX_paneChar
  refine xw_live hg hl (br_f (by decide) (br_f (nI_pos (by omega)) ⟨v8, br_f (by rw [e, hh]; exact nI_ge hr (by omega)) (br_f (nI_pos (by omega)) ⟨v8, br_t (by rw [e, hw]; exact nI_lt hs (by omega)) (xw_ci ⟨vp_in_nI (by omega) (by omega), ?_⟩)⟩)⟩))
  rw [nI_clamp (by omega)]
  refine ⟨by rw [en]; exact (pk_charN hn).1, K⟩
end VW
