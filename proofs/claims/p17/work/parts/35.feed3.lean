/-- a parameter, or one -/
def fd_n (a : Nat) : Nat := if a = 0 then 1 else a
theorem fd_n1 (a : Nat) (h : a ≤ 99) : 1 ≤ fd_n a ∧ fd_n a ≤ 99 := by unfold fd_n; split <;> omega
theorem xw_orOne {post : Int32 → Prop} {a : Nat} (ha : a ≤ 99) (K : post (nI (fd_n a))) : wpX_orOne post () (nI a) := by
  unfold fd_n at K
  refine pk_le a 0 (fun z => ?_) (fun z => ?_)
  · rw [if_pos (by omega)] at K; exact K
  · rw [if_neg (by omega)] at K; exact K
theorem la_mxs {a b : Nat} (ha : a < 1000) (hb : b < 1000) : la_mx 0 (nI a - nI b) = nI (a - b) := by
  by_cases h : b ≤ a
  · rw [pk_sub h]
    have := la_mxN (a := 0) (b := a - b) (by omega) (by omega)
    rw [if_pos (Nat.zero_le _)] at this
    exact this
  · have s := pk_sneg (a := a) (b := b) (by omega) (by omega)
    unfold la_mx
    rw [if_neg (fun z => absurd s (Int32.not_lt.mpr z)), show a - b = 0 by omega]
    rfl
theorem la_mns {a b : Nat} (ha : 1 ≤ a) (hb : b < 1000) (ha' : a < 1000) : la_mn (nI a - 1) (nI b) = nI (if b ≤ a - 1 then b else a - 1) := by
  rw [la_sub1 ha, la_mnN (by omega) (by omega)]
/-- the last line of a region -/
def fd_z (d h : Nat) : Nat := if d = 0 then h else if h ≤ d then h else d
section FF
variable {f_hostWidth f_hostHeight f_root f_focusedPane f_liveCount : Int32} {a_parent a_first a_second a_orientation a_share a_leastWidth a_leastHeight a_rectX a_rectY a_rectW a_rectH a_order a_live a_screenWidth a_screenHeight a_cursorRow a_cursorCol a_regionTop a_regionBottom a_parserMode a_paramOne a_paramTwo a_paramIndex a_cells : Nat → Int32}
variable {c : Nat} {nd en po : Nat → Nat} {w0 h0 f : Nat} {k g w h r q t b m a d kk v : Nat} {v2 : Int32}
theorem xw_reg {post : St2 → Prop} {n1 : Nat} (hg : g < 8) (hH : a_screenHeight g = nI h) (hD : a_paramTwo g = nI d) (hd : d ≤ 99) (h1 : 1 ≤ h) (h4 : h ≤ 12) (n1l : 1 ≤ n1) (n1u : n1 ≤ 99) (k0 : fd_z d h ≤ n1 → post (f_hostWidth, f_hostHeight, f_root, f_focusedPane, f_liveCount, a_parent, a_first, a_second, a_orientation, a_share, a_leastWidth, a_leastHeight, a_rectX, a_rectY, a_rectW, a_rectH, a_order, a_live, a_screenWidth, a_screenHeight, a_cursorRow, a_cursorCol, a_regionTop, a_regionBottom, a_parserMode, a_paramOne, a_paramTwo, a_paramIndex, a_cells))
    (k1 : n1 < fd_z d h → post (f_hostWidth, f_hostHeight, f_root, f_focusedPane, f_liveCount, a_parent, a_first, a_second, a_orientation, a_share, a_leastWidth, a_leastHeight, a_rectX, a_rectY, a_rectW, a_rectH, a_order, a_live, a_screenWidth, a_screenHeight, upd a_cursorRow g 0, upd a_cursorCol g 0, upd a_regionTop g (nI (n1 - 1)), upd a_regionBottom g (nI (fd_z d h - 1)), a_parserMode, a_paramOne, a_paramTwo, a_paramIndex, a_cells)) : wpX_setRegion post (f_hostWidth, f_hostHeight, f_root, f_focusedPane, f_liveCount, a_parent, a_first, a_second, a_orientation, a_share, a_leastWidth, a_leastHeight, a_rectX, a_rectY, a_rectW, a_rectH, a_order, a_live, a_screenWidth, a_screenHeight, a_cursorRow, a_cursorCol, a_regionTop, a_regionBottom, a_parserMode, a_paramOne, a_paramTwo, a_paramIndex, a_cells) (nI g) (nI n1) := by
  have v8 := vi_8 hg
  have e := cg_8 hg
  have zb : 1 ≤ fd_z d h ∧ fd_z d h ≤ 12 := by unfold fd_z; (repeat' split) <;> omega
  have B : ∀ z, z = nI (fd_z d h) → wX_setRegion_30 post (nI g) (nI n1) z f_hostWidth f_hostHeight f_root f_focusedPane f_liveCount a_parent a_first a_second a_orientation a_share a_leastWidth a_leastHeight a_rectX a_rectY a_rectW a_rectH a_order a_live a_screenWidth a_screenHeight a_cursorRow a_cursorCol a_regionTop a_regionBottom a_parserMode a_paramOne a_paramTwo a_paramIndex a_cells := by
    intro z hz
    subst hz
    exact pk_le (fd_z d h) n1 (fun y => k0 y) (fun y => ⟨v8, nm_r (e' := upd a_regionTop g (nI (n1 - 1))) (by rw [e, la_sub1 n1l]) ⟨v8, nm_r (e' := upd a_regionBottom g (nI (fd_z d h - 1))) (by rw [e, la_sub1 zb.1]) ⟨v8, nm_r (e' := upd a_cursorRow g 0) (by rw [e]) ⟨v8, nm_r (e' := upd a_cursorCol g 0) (by rw [e]) (k1 y)⟩⟩⟩⟩)
  refine ⟨v8, nm_r (e' := nI h) (by rw [e]; exact hH) ⟨v8, ?_⟩⟩
  rw [e, hD]
  refine pk_le d 0 (fun y => B _ ?_) (fun y => ⟨v8, xw_smaller (B _ ?_)⟩)
  · unfold fd_z; rw [if_pos (by omega)]
  · unfold fd_z; rw [if_neg (by omega), la_mnN (by omega) (by omega)]
end FF
