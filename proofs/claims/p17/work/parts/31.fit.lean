theorem fi_q {B kw kh j : Nat} : (ce_q B kh 0 12 24 j ∨ ce_q B 0 kw 12 24 j) ↔ B ≤ j ∧ j < B + 288 ∧ (kh ≤ (j - B) / 24 ∨ kw ≤ (j - B) % 24) := by
  unfold ce_q
  constructor <;> intro z <;> omega
section FX
variable {f_hostWidth f_hostHeight f_root f_focusedPane f_liveCount : Int32} {a_parent a_first a_second a_orientation a_share a_leastWidth a_leastHeight a_rectX a_rectY a_rectW a_rectH a_order a_live a_screenWidth a_screenHeight a_cursorRow a_cursorCol a_regionTop a_regionBottom a_parserMode a_paramOne a_paramTwo a_paramIndex a_cells : Nat → Int32}
theorem xw_start {post : St2 → Prop} {g : Nat} (hg : g < 8) (K : post (f_hostWidth, f_hostHeight, f_root, f_focusedPane, f_liveCount + 1, a_parent, a_first, a_second, a_orientation, a_share, a_leastWidth, a_leastHeight, a_rectX, a_rectY, a_rectW, a_rectH, a_order, upd a_live g 1, upd a_screenWidth g (a_rectW g), upd a_screenHeight g (a_rectH g), upd a_cursorRow g 0, upd a_cursorCol g 0, upd a_regionTop g 0, upd a_regionBottom g (a_rectH g - 1), upd a_parserMode g 0, upd a_paramOne g 0, upd a_paramTwo g 0, upd a_paramIndex g 0, ce_w (ce_q (g * 288) 0 0 12 24) a_cells)) : wpX_startPane post (f_hostWidth, f_hostHeight, f_root, f_focusedPane, f_liveCount, a_parent, a_first, a_second, a_orientation, a_share, a_leastWidth, a_leastHeight, a_rectX, a_rectY, a_rectW, a_rectH, a_order, a_live, a_screenWidth, a_screenHeight, a_cursorRow, a_cursorCol, a_regionTop, a_regionBottom, a_parserMode, a_paramOne, a_paramTwo, a_paramIndex, a_cells) (nI g) := by
  have v8 := vi_8 hg
  have v15 : vp_in (nI g) 15 := vi_15 (by omega)
  have e := cg_8 hg
  refine ⟨v8, nm_r (e' := upd a_live g 1) (by rw [e]) (nm_e ⟨v15, v8, nm_r (e' := upd a_screenWidth g (a_rectW g)) (by rw [e]) ⟨v15, v8, nm_r (e' := upd a_screenHeight g (a_rectH g)) (by rw [e]) (xw_blank (r0 := 0) (c0 := 0) (r1 := 12) (c1 := 24) hg (by omega) (by omega) (by omega) (by omega) ?_)⟩⟩)⟩
  exact ⟨v8, nm_r (e' := upd a_cursorRow g 0) (by rw [e]) ⟨v8, nm_r (e' := upd a_cursorCol g 0) (by rw [e]) ⟨v8, nm_r (e' := upd a_regionTop g 0) (by rw [e]) ⟨v15, v8, nm_r (e' := upd a_regionBottom g (a_rectH g - 1)) (by rw [e]) ⟨v8, nm_r (e' := upd a_parserMode g 0) (by rw [e]) ⟨v8, nm_r (e' := upd a_paramOne g 0) (by rw [e]) ⟨v8, nm_r (e' := upd a_paramTwo g 0) (by rw [e]) ⟨v8, nm_r (e' := upd a_paramIndex g 0) (by rw [e]) K⟩⟩⟩⟩⟩⟩⟩⟩
theorem xw_fit {post : St2 → Prop} {g ow oh nw nh kw kh : Nat} (hg : g < 8) (h1 : a_screenWidth g = nI ow) (h2 : a_screenHeight g = nI oh) (h3 : a_rectW g = nI nw) (h4 : a_rectH g = nI nh) (n1 : 1 ≤ nw) (n2 : nw ≤ 24) (n3 : 1 ≤ nh) (n4 : nh ≤ 12) (o1 : ow ≤ 24) (o2 : oh ≤ 12) (k1 : kw = if nw ≤ ow then nw else ow) (k2 : kh = if nh ≤ oh then nh else oh)
    (K : post (f_hostWidth, f_hostHeight, f_root, f_focusedPane, f_liveCount, a_parent, a_first, a_second, a_orientation, a_share, a_leastWidth, a_leastHeight, a_rectX, a_rectY, a_rectW, a_rectH, a_order, a_live, upd a_screenWidth g (a_rectW g), upd a_screenHeight g (a_rectH g), upd a_cursorRow g (fi_r a_cursorRow a_rectH g), upd a_cursorCol g (fi_r a_cursorCol a_rectW g), upd a_regionTop g (fi_t a_regionTop a_regionBottom a_rectH g), upd a_regionBottom g (fi_b a_regionBottom a_rectH g), a_parserMode, a_paramOne, a_paramTwo, a_paramIndex, ce_w (fun j => ce_q (g * 288) kh 0 12 24 j ∨ ce_q (g * 288) 0 kw 12 24 j) a_cells)) : wpX_fitScreen post (f_hostWidth, f_hostHeight, f_root, f_focusedPane, f_liveCount, a_parent, a_first, a_second, a_orientation, a_share, a_leastWidth, a_leastHeight, a_rectX, a_rectY, a_rectW, a_rectH, a_order, a_live, a_screenWidth, a_screenHeight, a_cursorRow, a_cursorCol, a_regionTop, a_regionBottom, a_parserMode, a_paramOne, a_paramTwo, a_paramIndex, a_cells) (nI g) := by
  have v8 := vi_8 hg
  have v15 : vp_in (nI g) 15 := vi_15 (by omega)
  have e := cg_8 hg
  have lw : kw ≤ 24 := by rw [k1]; split <;> omega
  have lh : kh ≤ 12 := by rw [k2]; split <;> omega
  refine ⟨v15, nm_e ⟨v15, nm_e ⟨v8, xw_smaller ⟨v8, xw_smaller ?_⟩⟩⟩⟩
  rw [e, h1, h2, h3, h4, la_mnN (by omega) (by omega), la_mnN (by omega) (by omega), ← k1, ← k2]
  refine xw_blank (r0 := 0) (c0 := kw) (r1 := 12) (c1 := 24) hg (by omega) (by omega) (by omega) lw (xw_blank (r0 := kh) (c0 := 0) (r1 := 12) (c1 := 24) hg lh (by omega) (by omega) (by omega) ?_)
  rw [ce_ww]
  refine ⟨v8, nm_r (e' := upd a_screenWidth g (a_rectW g)) (by rw [h3]) ⟨v8, nm_r (e' := upd a_screenHeight g (a_rectH g)) (by rw [h4]) ⟨v8, xw_smaller ⟨v8, nm_r (e' := upd a_cursorRow g (fi_r a_cursorRow a_rectH g)) (by unfold fi_r; rw [h4]) ⟨v8, xw_smaller ⟨v8, nm_r (e' := upd a_cursorCol g (fi_r a_cursorCol a_rectW g)) (by unfold fi_r; rw [h3]) ⟨v8, ?_⟩⟩⟩⟩⟩⟩⟩
  by_cases z : a_regionBottom g ≤ nI nh - 1
  · refine br_t z ?_
    have q : ¬ nI nh - 1 < a_regionBottom g := Int32.not_lt.mpr z
    have e1 : fi_t a_regionTop a_regionBottom a_rectH g = a_regionTop g := by unfold fi_t; rw [h4, if_neg q]
    have e2 : fi_b a_regionBottom a_rectH g = a_regionBottom g := by unfold fi_b; rw [h4, if_neg q]
    rw [e1, e2, pk_uu, pk_uu] at K
    exact K
  · have q : nI nh - 1 < a_regionBottom g := Int32.not_le.mp z
    exact br_f z ⟨v8, nm_r (e' := upd a_regionTop g (fi_t a_regionTop a_regionBottom a_rectH g)) (by unfold fi_t; rw [h4, if_pos q]) ⟨v8, nm_r (e' := upd a_regionBottom g (fi_b a_regionBottom a_rectH g)) (by unfold fi_b; rw [h4, if_pos q]) K⟩⟩
theorem xw_fits {post : St2 → Prop} {kw kh : Nat → Nat} (F : fi_F a_live a_screenWidth a_screenHeight a_rectW a_rectH kw kh)
    (K : post (f_hostWidth, f_hostHeight, f_root, f_focusedPane, f_liveCount, a_parent, a_first, a_second, a_orientation, a_share, a_leastWidth, a_leastHeight, a_rectX, a_rectY, a_rectW, a_rectH, a_order, a_live, fi_A a_live 8 a_rectW a_screenWidth, fi_A a_live 8 a_rectH a_screenHeight, fi_A a_live 8 (fi_r a_cursorRow a_rectH) a_cursorRow, fi_A a_live 8 (fi_r a_cursorCol a_rectW) a_cursorCol, fi_A a_live 8 (fi_t a_regionTop a_regionBottom a_rectH) a_regionTop, fi_A a_live 8 (fi_b a_regionBottom a_rectH) a_regionBottom, a_parserMode, a_paramOne, a_paramTwo, a_paramIndex, ce_w (fi_S a_live kw kh 8) a_cells)) : wpX_fitScreens post (f_hostWidth, f_hostHeight, f_root, f_focusedPane, f_liveCount, a_parent, a_first, a_second, a_orientation, a_share, a_leastWidth, a_leastHeight, a_rectX, a_rectY, a_rectW, a_rectH, a_order, a_live, a_screenWidth, a_screenHeight, a_cursorRow, a_cursorCol, a_regionTop, a_regionBottom, a_parserMode, a_paramOne, a_paramTwo, a_paramIndex, a_cells) := by
  have main : ∀ d i, i + d = 8 → wX_fitScreens_2 post (d + 1) (nI i) f_hostWidth f_hostHeight f_root f_focusedPane f_liveCount a_parent a_first a_second a_orientation a_share a_leastWidth a_leastHeight a_rectX a_rectY a_rectW a_rectH a_order a_live (fi_A a_live i a_rectW a_screenWidth) (fi_A a_live i a_rectH a_screenHeight) (fi_A a_live i (fi_r a_cursorRow a_rectH) a_cursorRow) (fi_A a_live i (fi_r a_cursorCol a_rectW) a_cursorCol) (fi_A a_live i (fi_t a_regionTop a_regionBottom a_rectH) a_regionTop) (fi_A a_live i (fi_b a_regionBottom a_rectH) a_regionBottom) a_parserMode a_paramOne a_paramTwo a_paramIndex (ce_w (fi_S a_live kw kh i) a_cells) := by
    intro d
    induction d with
    | zero =>
      intro i hi
      have e : i = 8 := by omega
      subst e
      exact br_t (nI_le (a := 8) (Nat.le_refl _) (by omega)) K
    | succ d ih =>
      intro i hi
      have h8 : i < 8 := by omega
      have IH := ih (i + 1) (by omega)
      refine br_f (nI_ge (b := 8) h8 (by omega)) ⟨vi_8 h8, ?_⟩
      rw [cg_8 h8]
      by_cases z : a_live i = 0
      · refine br_t z (nm_r (nI_1 i) ?_)
        rw [fi_Ak (Or.inl z), fi_Ak (Or.inl z), fi_Ak (Or.inl z), fi_Ak (Or.inl z), fi_Ak (Or.inl z), fi_Ak (Or.inl z), fi_Sk z] at IH
        exact IH
      · obtain ⟨ow, oh, nw, nh, f1, f2, f3, f4, f5, f6, f7, f8, f9, f10, f11, f12⟩ := F i h8 z
        refine br_f z (xw_fit (ow := ow) (oh := oh) (nw := nw) (nh := nh) (kw := kw i) (kh := kh i) h8 (by rw [fi_Ao (Nat.le_refl _)]; exact f1) (by rw [fi_Ao (Nat.le_refl _)]; exact f2) f3 f4 f5 f6 f7 f8 f9 f10 f11 f12 (nm_r (nI_1 i) ?_))
        have r1 : fi_r (fi_A a_live i (fi_r a_cursorRow a_rectH) a_cursorRow) a_rectH i = fi_r a_cursorRow a_rectH i := by unfold fi_r; rw [fi_Ao (Nat.le_refl _)]
        have r2 : fi_r (fi_A a_live i (fi_r a_cursorCol a_rectW) a_cursorCol) a_rectW i = fi_r a_cursorCol a_rectW i := by unfold fi_r; rw [fi_Ao (Nat.le_refl _)]
        have r3 : fi_t (fi_A a_live i (fi_t a_regionTop a_regionBottom a_rectH) a_regionTop) (fi_A a_live i (fi_b a_regionBottom a_rectH) a_regionBottom) a_rectH i = fi_t a_regionTop a_regionBottom a_rectH i := by unfold fi_t; rw [fi_Ao (Nat.le_refl _), fi_Ao (Nat.le_refl _)]
        have r4 : fi_b (fi_A a_live i (fi_b a_regionBottom a_rectH) a_regionBottom) a_rectH i = fi_b a_regionBottom a_rectH i := by unfold fi_b; rw [fi_Ao (Nat.le_refl _)]
        rw [fi_Au z rfl, fi_Au z rfl, fi_Au z r1, fi_Au z r2, fi_Au z r3, fi_Au z r4, fi_Su z (fun j => fi_q)]
        exact IH
  have m := main 8 0 (by omega)
  rw [fi_A0, fi_A0, fi_A0, fi_A0, fi_A0, fi_A0, fi_S0] at m
  exact ⟨9, m⟩
end FX
