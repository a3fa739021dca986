theorem xw_smaller {post : Int32 → Prop} {a b : Int32} (h : post (la_mn a b)) : wpX_smaller post () a b := by
  unfold wpX_smaller
  unfold la_mn at h
  exact ⟨fun z => by rw [if_pos z] at h; exact h, fun z => by rw [if_neg z] at h; exact h⟩
theorem xw_larger {post : Int32 → Prop} {a b : Int32} (h : post (la_mx a b)) : wpX_larger post () a b := by
  unfold wpX_larger
  unfold la_mx at h
  exact ⟨fun z => by rw [if_pos z] at h; exact h, fun z => by rw [if_neg z] at h; exact h⟩
/-- a value held between two bounds -/
def la_cl (x a b : Int32) : Int32 := if a ≤ x then la_mn x b else a
theorem xw_clamp {post : Int32 → Prop} {x a b : Int32} (h : post (la_cl x a b)) : wpX_clamp post () x a b := by
  unfold wpX_clamp
  unfold la_cl at h
  exact ⟨fun z => by rw [if_pos z] at h; exact xw_smaller h, fun z => by rw [if_neg z] at h; exact h⟩
theorem la_clN (x : Int32) {a b : Nat} (h : a ≤ b) (hb : b < 2 ^ 31) : ∃ v, la_cl x (nI a) (nI b) = nI v ∧ a ≤ v ∧ v ≤ b := by
  unfold la_cl
  by_cases z : nI a ≤ x
  · rw [if_pos z]
    have n : ¬ x < 0 := fun y => by
      have q := nI_pos' (n := a) (by omega)
      exact Int32.lt_irrefl (Int32.lt_of_le_of_lt z (Int32.lt_of_lt_of_le y q))
    obtain ⟨j, hj, e⟩ := nI_of n
    subst e
    rw [nI_leI (by omega) hj] at z
    rw [la_mnN hj hb]
    refine ⟨_, rfl, ?_, ?_⟩ <;> split <;> omega
  · rw [if_neg z]
    exact ⟨a, rfl, by omega, h⟩
theorem xc_i (g r c : Nat) : nI g * 288 + nI r * 24 + nI c = nI (g * 288 + r * 24 + c) := by
  rw [show (288 : Int32) = nI 288 from rfl, show (24 : Int32) = nI 24 from rfl, pk_mul, pk_mul, nI_add, nI_add]
theorem xw_ci {post : Int32 → Prop} {g r c : Nat} (h : post (nI (g * 288 + r * 24 + c))) : wpX_cellIndex post () (nI g) (nI r) (nI c) := by
  unfold wpX_cellIndex
  rw [xc_i]
  exact h
section XC
variable {f_hostWidth f_hostHeight f_root f_focusedPane f_liveCount : Int32} {a_parent a_first a_second a_orientation a_share a_leastWidth a_leastHeight a_rectX a_rectY a_rectW a_rectH a_order a_live a_screenWidth a_screenHeight a_cursorRow a_cursorCol a_regionTop a_regionBottom a_parserMode a_paramOne a_paramTwo a_paramIndex a_cells : Nat → Int32}
theorem xw_blank13 {post : St2 → Prop} {J : _} {g r c0 c1 : Nat} {x3 x4 : Int32} {S S' : Nat → Prop} {a : Nat → Int32} (hg : g < 8) (hr : r < 12) (hc1 : c1 ≤ 24) (hc0 : c0 ≤ 24) (hS : ∀ j, S' j ↔ S j ∨ (g * 288 + r * 24 + c0 ≤ j ∧ j < g * 288 + r * 24 + c1))
    (K : J (nI (r + 1)) a_parent a_first a_second a_orientation a_share a_leastWidth a_leastHeight a_rectX a_rectY a_rectW a_rectH a_order a_live a_screenWidth a_screenHeight a_cursorRow a_cursorCol a_regionTop a_regionBottom a_parserMode a_paramOne a_paramTwo a_paramIndex (ce_w S' a)) : ∃ n, wX_blankCells_13 post J (nI g) x3 x4 (nI c1) (nI r) f_hostWidth f_hostHeight f_root f_focusedPane f_liveCount n (nI c0) a_parent a_first a_second a_orientation a_share a_leastWidth a_leastHeight a_rectX a_rectY a_rectW a_rectH a_order a_live a_screenWidth a_screenHeight a_cursorRow a_cursorCol a_regionTop a_regionBottom a_parserMode a_paramOne a_paramTwo a_paramIndex (ce_w S a) := by
  by_cases h : c0 ≤ c1
  · refine pk_loop (fun n i s => wX_blankCells_13 post J (nI g) x3 x4 (nI c1) (nI r) f_hostWidth f_hostHeight f_root f_focusedPane f_liveCount n (nI i) a_parent a_first a_second a_orientation a_share a_leastWidth a_leastHeight a_rectX a_rectY a_rectW a_rectH a_order a_live a_screenWidth a_screenHeight a_cursorRow a_cursorCol a_regionTop a_regionBottom a_parserMode a_paramOne a_paramTwo a_paramIndex s)
      (fun i s => c0 ≤ i ∧ s = ce_w (fun j => S j ∨ (g * 288 + r * 24 + c0 ≤ j ∧ j < g * 288 + r * 24 + i)) a) c1 c0 _ h ?_ ?_ ?_
    · exact ⟨Nat.le_refl _, ce_we (fun j => ce_g0 (Nat.le_refl _))⟩
    · intro n s hs
      refine br_t (nI_le (Nat.le_refl _) (by omega)) (nm_r (nI_1 r) ?_)
      rw [hs.2, ce_we (R := S') (fun j => (hS j).symm)]
      exact K
    · intro n i s hi hs k
      refine br_f (nI_ge hi (by omega)) (xw_ci ⟨vp_in_nI (by omega) (by omega), nm_r (e' := ce_w (fun j => S j ∨ (g * 288 + r * 24 + c0 ≤ j ∧ j < g * 288 + r * 24 + (i + 1))) a) ?_ (nm_r (nI_1 i) (k _ ⟨by omega, rfl⟩))⟩)
      rw [nI_clamp (by omega), hs.2]
      exact ce_wu (fun j => ce_g1 (lo := g * 288 + r * 24 + c0) (hi := g * 288 + r * 24 + i) (by omega))
  · refine ⟨1, br_t (nI_le (by omega) (by omega)) (nm_r (nI_1 r) ?_)⟩
    rw [ce_we (S := S) (R := S') (fun j => (ce_g0 (by omega)).trans (hS j).symm)]
    exact K
theorem xw_blank {post : St2 → Prop} {g r0 c0 r1 c1 : Nat} (hg : g < 8) (h01 : r0 ≤ r1) (hr1 : r1 ≤ 12) (hc1 : c1 ≤ 24) (hc0 : c0 ≤ 24) (K : post (f_hostWidth, f_hostHeight, f_root, f_focusedPane, f_liveCount, a_parent, a_first, a_second, a_orientation, a_share, a_leastWidth, a_leastHeight, a_rectX, a_rectY, a_rectW, a_rectH, a_order, a_live, a_screenWidth, a_screenHeight, a_cursorRow, a_cursorCol, a_regionTop, a_regionBottom, a_parserMode, a_paramOne, a_paramTwo, a_paramIndex, ce_w (ce_q (g * 288) r0 c0 r1 c1) a_cells)) : wpX_blankCells post (f_hostWidth, f_hostHeight, f_root, f_focusedPane, f_liveCount, a_parent, a_first, a_second, a_orientation, a_share, a_leastWidth, a_leastHeight, a_rectX, a_rectY, a_rectW, a_rectH, a_order, a_live, a_screenWidth, a_screenHeight, a_cursorRow, a_cursorCol, a_regionTop, a_regionBottom, a_parserMode, a_paramOne, a_paramTwo, a_paramIndex, a_cells) (nI g) (nI r0) (nI c0) (nI r1) (nI c1) := by
  refine pk_loop (fun n i s => wX_blankCells_3 post (nI g) (nI c0) (nI r1) (nI c1) f_hostWidth f_hostHeight f_root f_focusedPane f_liveCount n (nI i) a_parent a_first a_second a_orientation a_share a_leastWidth a_leastHeight a_rectX a_rectY a_rectW a_rectH a_order a_live a_screenWidth a_screenHeight a_cursorRow a_cursorCol a_regionTop a_regionBottom a_parserMode a_paramOne a_paramTwo a_paramIndex s)
    (fun i s => r0 ≤ i ∧ s = ce_w (ce_q (g * 288) r0 c0 i c1) a_cells) r1 r0 _ h01 ?_ ?_ ?_
  · refine ⟨Nat.le_refl _, (ce_w0 (fun j z => ?_)).symm⟩
    obtain ⟨z1, z2, z3, z4, z5⟩ := z
    omega
  · intro n s hs
    refine br_t (nI_le (Nat.le_refl _) (by omega)) ?_
    rw [hs.2]
    exact K
  · intro n i s hi hs k
    obtain ⟨h1, h2⟩ := hs
    subst h2
    exact br_f (nI_ge hi (by omega)) (xw_blank13 hg (by omega) hc1 hc0 (fun j => ce_g2 hc1 h1) (k _ ⟨by omega, rfl⟩))
theorem xw_scr79 {post : St2 → Prop} {J : _} {l t : Nat} {x2 x4 : Int32} {a : Nat → Int32} (hl : l + 24 ≤ 2304)
    (K : J (nI (t + 1)) a_parent a_first a_second a_orientation a_share a_leastWidth a_leastHeight a_rectX a_rectY a_rectW a_rectH a_order a_live a_screenWidth a_screenHeight a_cursorRow a_cursorCol a_regionTop a_regionBottom a_parserMode a_paramOne a_paramTwo a_paramIndex (ce_w (fun j => l ≤ j ∧ j < l + 24) a)) : ∃ n, wX_scroll_79 post J x2 x4 (nI l) (nI t) f_hostWidth f_hostHeight f_root f_focusedPane f_liveCount n (nI l) a_parent a_first a_second a_orientation a_share a_leastWidth a_leastHeight a_rectX a_rectY a_rectW a_rectH a_order a_live a_screenWidth a_screenHeight a_cursorRow a_cursorCol a_regionTop a_regionBottom a_parserMode a_paramOne a_paramTwo a_paramIndex a := by
  have e24 : nI l + 24 = nI (l + 24) := nI_add l 24
  refine pk_loop (fun n i s => wX_scroll_79 post J x2 x4 (nI l) (nI t) f_hostWidth f_hostHeight f_root f_focusedPane f_liveCount n (nI i) a_parent a_first a_second a_orientation a_share a_leastWidth a_leastHeight a_rectX a_rectY a_rectW a_rectH a_order a_live a_screenWidth a_screenHeight a_cursorRow a_cursorCol a_regionTop a_regionBottom a_parserMode a_paramOne a_paramTwo a_paramIndex s)
    (fun i s => l ≤ i ∧ s = ce_w (fun j => l ≤ j ∧ j < i) a) (l + 24) l _ (by omega) ?_ ?_ ?_
  · exact ⟨Nat.le_refl _, (ce_w0 (fun j z => by omega)).symm⟩
  · intro n s hs
    refine br_t (by rw [e24]; exact nI_le (Nat.le_refl _) (by omega)) (nm_r (nI_1 t) ?_)
    rw [hs.2]
    exact K
  · intro n i s hi hs k
    refine br_f (by rw [e24]; exact nI_ge hi (by omega)) ⟨vp_in_nI (by omega) (by omega), nm_r (e' := ce_w (fun j => l ≤ j ∧ j < i + 1) a) ?_ (nm_r (nI_1 i) (k _ ⟨by omega, rfl⟩))⟩
    rw [nI_clamp (by omega), hs.2]
    exact ce_wu (fun j => ce_g3 (hi := i) hs.1)
theorem xw_scr45 {post : St2 → Prop} {J : _} {s0 l t : Nat} {x2 : Int32} {a : Nat → Int32} (hs0 : s0 ≤ l) (hl : l + 24 ≤ 2304) (ch : ∀ j, s0 ≤ j → j < l + 24 → ∃ n, n < 65536 ∧ a j = nI n)
    (K : J (nI (t + 1)) a_parent a_first a_second a_orientation a_share a_leastWidth a_leastHeight a_rectX a_rectY a_rectW a_rectH a_order a_live a_screenWidth a_screenHeight a_cursorRow a_cursorCol a_regionTop a_regionBottom a_parserMode a_paramOne a_paramTwo a_paramIndex (ce_c s0 l a)) : ∃ n, wX_scroll_45 post J x2 (nI s0) (nI l) (nI t) f_hostWidth f_hostHeight f_root f_focusedPane f_liveCount n (nI s0) a_parent a_first a_second a_orientation a_share a_leastWidth a_leastHeight a_rectX a_rectY a_rectW a_rectH a_order a_live a_screenWidth a_screenHeight a_cursorRow a_cursorCol a_regionTop a_regionBottom a_parserMode a_paramOne a_paramTwo a_paramIndex a := by
  refine pk_loop (fun n i s => wX_scroll_45 post J x2 (nI s0) (nI l) (nI t) f_hostWidth f_hostHeight f_root f_focusedPane f_liveCount n (nI i) a_parent a_first a_second a_orientation a_share a_leastWidth a_leastHeight a_rectX a_rectY a_rectW a_rectH a_order a_live a_screenWidth a_screenHeight a_cursorRow a_cursorCol a_regionTop a_regionBottom a_parserMode a_paramOne a_paramTwo a_paramIndex s)
    (fun i s => s0 ≤ i ∧ s = ce_m a s0 i) l s0 _ hs0 ?_ ?_ ?_
  · exact ⟨Nat.le_refl _, ce_m0.symm⟩
  · intro n s hs
    refine br_t (nI_le (Nat.le_refl _) (by omega)) ?_
    rw [hs.2]
    exact xw_scr79 hl K
  · intro n i s hi hs k
    have e24 : nI i + 24 = nI (i + 24) := nI_add i 24
    refine br_f (nI_ge hi (by omega)) ⟨by rw [e24]; exact vp_in_nI (by omega) (by omega), vp_in_nI (by omega) (by omega), nm_r (e' := ce_m a s0 (i + 1)) ?_ (nm_r (nI_1 i) (k _ ⟨by omega, rfl⟩))⟩
    obtain ⟨n, hn, en⟩ := ch (i + 24) (by omega) (by omega)
    have e : ce_m a s0 i (i + 24) = a (i + 24) := by unfold ce_m; rw [if_neg (by omega)]
    rw [e24, nI_clamp (by omega), nI_clamp (by omega), hs.2, ← ce_mu hs.1, e, en, nr_c hn]
theorem xw_scroll {post : St2 → Prop} {g t b m : Nat} (hg : g < 8) (hT : a_regionTop g = nI t) (hB : a_regionBottom g = nI b) (htb : t ≤ b) (hb : b < 12) (hm : m < 2 ^ 31) (H : ce_H (g * 288) a_cells)
    (K : post (f_hostWidth, f_hostHeight, f_root, f_focusedPane, f_liveCount, a_parent, a_first, a_second, a_orientation, a_share, a_leastWidth, a_leastHeight, a_rectX, a_rectY, a_rectW, a_rectH, a_order, a_live, a_screenWidth, a_screenHeight, a_cursorRow, a_cursorCol, a_regionTop, a_regionBottom, a_parserMode, a_paramOne, a_paramTwo, a_paramIndex, ce_n (g * 288 + t * 24) (g * 288 + b * 24) m a_cells)) : wpX_scroll post (f_hostWidth, f_hostHeight, f_root, f_focusedPane, f_liveCount, a_parent, a_first, a_second, a_orientation, a_share, a_leastWidth, a_leastHeight, a_rectX, a_rectY, a_rectW, a_rectH, a_order, a_live, a_screenWidth, a_screenHeight, a_cursorRow, a_cursorCol, a_regionTop, a_regionBottom, a_parserMode, a_paramOne, a_paramTwo, a_paramIndex, a_cells) (nI g) (nI m) := by
  have e1 : nI g * 288 = nI (g * 288) := pk_mul g 288
  have e2 : nI (g * 288) + nI t * 24 = nI (g * 288 + t * 24) := by rw [show (24 : Int32) = nI 24 from rfl, pk_mul, nI_add]
  have e3 : nI (g * 288) + nI b * 24 = nI (g * 288 + b * 24) := by rw [show (24 : Int32) = nI 24 from rfl, pk_mul, nI_add]
  refine nm_r e1 ⟨vi_8 hg, nm_r (e' := nI (g * 288 + t * 24)) (by rw [cg_8 hg, hT]; exact e2) ⟨vi_8 hg, nm_r (e' := nI (g * 288 + b * 24)) (by rw [cg_8 hg, hB]; exact e3) ?_⟩⟩
  refine pk_loop (fun n i s => wX_scroll_35 post (nI m) (nI (g * 288 + t * 24)) (nI (g * 288 + b * 24)) f_hostWidth f_hostHeight f_root f_focusedPane f_liveCount n (nI i) a_parent a_first a_second a_orientation a_share a_leastWidth a_leastHeight a_rectX a_rectY a_rectW a_rectH a_order a_live a_screenWidth a_screenHeight a_cursorRow a_cursorCol a_regionTop a_regionBottom a_parserMode a_paramOne a_paramTwo a_paramIndex s)
    (fun i s => s = ce_n (g * 288 + t * 24) (g * 288 + b * 24) i a_cells) m 0 _ (Nat.zero_le _) rfl ?_ ?_
  · intro n s hs
    refine br_t (nI_le (Nat.le_refl _) hm) ?_
    rw [hs]
    exact K
  · intro n i s hi hs k
    subst hs
    exact br_f (nI_ge hi hm) (xw_scr45 (by omega) (by omega) (fun j h1 h2 => ce_Hn hb H i j (by omega) (by omega)) (k _ rfl))
theorem xw_lineFeed {post : St2 → Prop} {g t b r h : Nat} (hg : g < 8) (hT : a_regionTop g = nI t) (hB : a_regionBottom g = nI b) (htb : t ≤ b) (hb : b < 12) (hR : a_cursorRow g = nI r) (hr : r < h) (hh : h ≤ 12) (hS : a_screenHeight g = nI h) (H : ce_H (g * 288) a_cells)
    (k1 : r = b → post (f_hostWidth, f_hostHeight, f_root, f_focusedPane, f_liveCount, a_parent, a_first, a_second, a_orientation, a_share, a_leastWidth, a_leastHeight, a_rectX, a_rectY, a_rectW, a_rectH, a_order, a_live, a_screenWidth, a_screenHeight, a_cursorRow, a_cursorCol, a_regionTop, a_regionBottom, a_parserMode, a_paramOne, a_paramTwo, a_paramIndex, ce_n (g * 288 + t * 24) (g * 288 + b * 24) 1 a_cells)) (k2 : r ≠ b → h - 1 ≤ r → post (f_hostWidth, f_hostHeight, f_root, f_focusedPane, f_liveCount, a_parent, a_first, a_second, a_orientation, a_share, a_leastWidth, a_leastHeight, a_rectX, a_rectY, a_rectW, a_rectH, a_order, a_live, a_screenWidth, a_screenHeight, a_cursorRow, a_cursorCol, a_regionTop, a_regionBottom, a_parserMode, a_paramOne, a_paramTwo, a_paramIndex, a_cells)) (k3 : r ≠ b → r < h - 1 → post (f_hostWidth, f_hostHeight, f_root, f_focusedPane, f_liveCount, a_parent, a_first, a_second, a_orientation, a_share, a_leastWidth, a_leastHeight, a_rectX, a_rectY, a_rectW, a_rectH, a_order, a_live, a_screenWidth, a_screenHeight, upd a_cursorRow g (nI (r + 1)), a_cursorCol, a_regionTop, a_regionBottom, a_parserMode, a_paramOne, a_paramTwo, a_paramIndex, a_cells)) : wpX_lineFeed post (f_hostWidth, f_hostHeight, f_root, f_focusedPane, f_liveCount, a_parent, a_first, a_second, a_orientation, a_share, a_leastWidth, a_leastHeight, a_rectX, a_rectY, a_rectW, a_rectH, a_order, a_live, a_screenWidth, a_screenHeight, a_cursorRow, a_cursorCol, a_regionTop, a_regionBottom, a_parserMode, a_paramOne, a_paramTwo, a_paramIndex, a_cells) (nI g) := by
  refine ⟨vi_8 hg, vi_8 hg, ?_⟩
  rw [cg_8 hg, hR, hB]
  refine pk_eq r b (fun z => xw_scroll hg hT hB htb hb (m := 1) (by omega) H (k1 z)) (fun z => ⟨vi_8 hg, vi_8 hg, ?_⟩)
  rw [hS, la_sub1 (by omega)]
  exact pk_le (h - 1) r (fun y => k2 z y) (fun y => ⟨vi_8 hg, vi_8 hg, nm_r (by rw [nI_1]) (k3 z y)⟩)
theorem xw_print {post : St2 → Prop} {g t b r q h w v : Nat} (hg : g < 8) (hT : a_regionTop g = nI t) (hB : a_regionBottom g = nI b) (htb : t ≤ b) (hb : b < 12) (hR : a_cursorRow g = nI r) (hr : r < h) (hh : h ≤ 12) (hS : a_screenHeight g = nI h) (hC : a_cursorCol g = nI q) (hq : q < w) (hw : w ≤ 24) (hW : a_screenWidth g = nI w) (hv : v < 256)
    (H : ce_H (g * 288) (upd a_cells (g * 288 + r * 24 + q) (nI v)))
    (k0 : q + 1 ≠ w → post (f_hostWidth, f_hostHeight, f_root, f_focusedPane, f_liveCount, a_parent, a_first, a_second, a_orientation, a_share, a_leastWidth, a_leastHeight, a_rectX, a_rectY, a_rectW, a_rectH, a_order, a_live, a_screenWidth, a_screenHeight, a_cursorRow, upd a_cursorCol g (nI (q + 1)), a_regionTop, a_regionBottom, a_parserMode, a_paramOne, a_paramTwo, a_paramIndex, upd a_cells (g * 288 + r * 24 + q) (nI v)))
    (k1 : q + 1 = w → r = b → post (f_hostWidth, f_hostHeight, f_root, f_focusedPane, f_liveCount, a_parent, a_first, a_second, a_orientation, a_share, a_leastWidth, a_leastHeight, a_rectX, a_rectY, a_rectW, a_rectH, a_order, a_live, a_screenWidth, a_screenHeight, a_cursorRow, upd (upd a_cursorCol g (nI (q + 1))) g 0, a_regionTop, a_regionBottom, a_parserMode, a_paramOne, a_paramTwo, a_paramIndex, ce_n (g * 288 + t * 24) (g * 288 + b * 24) 1 (upd a_cells (g * 288 + r * 24 + q) (nI v))))
    (k2 : q + 1 = w → r ≠ b → h - 1 ≤ r → post (f_hostWidth, f_hostHeight, f_root, f_focusedPane, f_liveCount, a_parent, a_first, a_second, a_orientation, a_share, a_leastWidth, a_leastHeight, a_rectX, a_rectY, a_rectW, a_rectH, a_order, a_live, a_screenWidth, a_screenHeight, a_cursorRow, upd (upd a_cursorCol g (nI (q + 1))) g 0, a_regionTop, a_regionBottom, a_parserMode, a_paramOne, a_paramTwo, a_paramIndex, upd a_cells (g * 288 + r * 24 + q) (nI v)))
    (k3 : q + 1 = w → r ≠ b → r < h - 1 → post (f_hostWidth, f_hostHeight, f_root, f_focusedPane, f_liveCount, a_parent, a_first, a_second, a_orientation, a_share, a_leastWidth, a_leastHeight, a_rectX, a_rectY, a_rectW, a_rectH, a_order, a_live, a_screenWidth, a_screenHeight, upd a_cursorRow g (nI (r + 1)), upd (upd a_cursorCol g (nI (q + 1))) g 0, a_regionTop, a_regionBottom, a_parserMode, a_paramOne, a_paramTwo, a_paramIndex, upd a_cells (g * 288 + r * 24 + q) (nI v))) : wpX_printChar post (f_hostWidth, f_hostHeight, f_root, f_focusedPane, f_liveCount, a_parent, a_first, a_second, a_orientation, a_share, a_leastWidth, a_leastHeight, a_rectX, a_rectY, a_rectW, a_rectH, a_order, a_live, a_screenWidth, a_screenHeight, a_cursorRow, a_cursorCol, a_regionTop, a_regionBottom, a_parserMode, a_paramOne, a_paramTwo, a_paramIndex, a_cells) (nI g) (nI v) := by
  have ev : ((nI v).toUInt32 % 65536).toInt32 = nI v := by
    rw [pk_char, pk_tn (by omega), Nat.mod_eq_of_lt (by omega)]
  refine ⟨vi_8 hg, vi_8 hg, ?_⟩
  rw [cg_8 hg, hR, hC, ev]
  refine xw_ci ⟨vp_in_nI (by omega) (by omega), nm_r (e' := upd a_cells (g * 288 + r * 24 + q) (nI v)) (by rw [nI_clamp (by omega)]) ⟨vi_8 hg, vi_8 hg, nm_r (e' := upd a_cursorCol g (nI (q + 1))) (by rw [nI_1]) ⟨vi_8 hg, vi_8 hg, ?_⟩⟩⟩
  rw [pk_us, hW]
  refine pk_eq (q + 1) w (fun z => ⟨vi_8 hg, nm_e ?_⟩) (fun z => k0 z)
  exact xw_lineFeed (h := h) hg hT hB htb hb hR hr hh hS H (k1 z) (k2 z) (k3 z)
end XC
