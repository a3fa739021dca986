/-- no live pane has this id -/
def pd_D (lv : Nat → Int32) (p : Int32) : Prop := p < 0 ∨ nI 8 ≤ p ∨ ∃ g, g < 8 ∧ p = nI g ∧ lv g = 0
theorem pd_or (lv : Nat → Int32) (p : Int32) : pd_D lv p ∨ ∃ g, g < 8 ∧ p = nI g ∧ lv g ≠ 0 := by
  rcases pk_ix p (n := 8) (by omega) with h | h | ⟨g, hg, e⟩
  · exact Or.inl (Or.inl h)
  · exact Or.inl (Or.inr (Or.inl h))
  · by_cases z : lv g = 0
    · exact Or.inl (Or.inr (Or.inr ⟨g, hg, e, z⟩))
    · exact Or.inr ⟨g, hg, e, z⟩
theorem pd_br {lv : Nat → Int32} {p : Int32} {A : Prop} (D : pd_D lv p) (K : A) {B : Prop} : (p < 0 → A) ∧ (¬ p < 0 → ((8 ≤ p → A) ∧ (¬ 8 ≤ p → (vp_in p 8 ∧ ((lv p.toNatClampNeg = 0 → A) ∧ (¬ lv p.toNatClampNeg = 0 → B)))))) := by
  refine ⟨fun _ => K, fun h0 => ⟨fun _ => K, fun h8 => ?_⟩⟩
  rcases D with h | h | ⟨g, hg, e, z⟩
  · exact absurd h h0
  · exact absurd h h8
  · subst e
    exact ⟨vi_8 hg, fun _ => K, fun y => absurd (by rw [cg_8 hg]; exact z) y⟩
theorem pd_bl {lv : Nat → Int32} {g : Nat} {A B : Prop} (hg : g < 8) (hl : lv g ≠ 0) (K : B) : (nI g < 0 → A) ∧ (¬ nI g < 0 → ((8 ≤ nI g → A) ∧ (¬ 8 ≤ nI g → (vp_in (nI g) 8 ∧ ((lv (nI g).toNatClampNeg = 0 → A) ∧ (¬ lv (nI g).toNatClampNeg = 0 → B)))))) :=
  br_f (nI_pos (by omega)) (br_f (nI_ge (b := 8) hg (by omega)) ⟨vi_8 hg, br_f (by rw [cg_8 hg]; exact hl) K⟩)
section EZ
variable {f_hostWidth f_hostHeight f_root f_focusedPane f_liveCount : Int32} {a_parent a_first a_second a_orientation a_share a_leastWidth a_leastHeight a_rectX a_rectY a_rectW a_rectH a_order a_live a_screenWidth a_screenHeight a_cursorRow a_cursorCol a_regionTop a_regionBottom a_parserMode a_paramOne a_paramTwo a_paramIndex a_cells : Nat → Int32}
theorem xw_dead {post : Int32 → Prop} {p : Int32} (D : pd_D a_live p) (K : post 0) : wpX_isLive post (f_hostWidth, f_hostHeight, f_root, f_focusedPane, f_liveCount, a_parent, a_first, a_second, a_orientation, a_share, a_leastWidth, a_leastHeight, a_rectX, a_rectY, a_rectW, a_rectH, a_order, a_live, a_screenWidth, a_screenHeight, a_cursorRow, a_cursorCol, a_regionTop, a_regionBottom, a_parserMode, a_paramOne, a_paramTwo, a_paramIndex, a_cells) p := pd_br D K
theorem xw_live {post : Int32 → Prop} {g : Nat} (hg : g < 8) (hl : a_live g ≠ 0) (K : post 1) : wpX_isLive post (f_hostWidth, f_hostHeight, f_root, f_focusedPane, f_liveCount, a_parent, a_first, a_second, a_orientation, a_share, a_leastWidth, a_leastHeight, a_rectX, a_rectY, a_rectW, a_rectH, a_order, a_live, a_screenWidth, a_screenHeight, a_cursorRow, a_cursorCol, a_regionTop, a_regionBottom, a_parserMode, a_paramOne, a_paramTwo, a_paramIndex, a_cells) (nI g) := pd_bl hg hl K
end EZ
