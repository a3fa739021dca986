section XL
variable {f_hostWidth f_hostHeight f_root f_focusedPane f_liveCount : Int32} {a_parent a_first a_second a_orientation a_share a_leastWidth a_leastHeight a_rectX a_rectY a_rectW a_rectH a_order a_live a_screenWidth a_screenHeight a_cursorRow a_cursorCol a_regionTop a_regionBottom a_parserMode a_paramOne a_paramTwo a_paramIndex a_cells : Nat → Int32}
variable {c : Nat} {nd en po : Nat → Nat} {kd vl : Nat → Int32}
theorem xw_order {post : Int32 → St2 → Prop} (T : tr_T c nd en po f_root a_parent a_first a_second a_orientation a_share kd vl)
    (K : ∀ k o ord, bf_O c kd en k o → (∀ j, j < k → ord j = nI (nd (o j))) → post (nI k) (f_hostWidth, f_hostHeight, f_root, f_focusedPane, f_liveCount, a_parent, a_first, a_second, a_orientation, a_share, a_leastWidth, a_leastHeight, a_rectX, a_rectY, a_rectW, a_rectH, ord, a_live, a_screenWidth, a_screenHeight, a_cursorRow, a_cursorCol, a_regionTop, a_regionBottom, a_parserMode, a_paramOne, a_paramTwo, a_paramIndex, a_cells)) : wpX_orderNodes post (f_hostWidth, f_hostHeight, f_root, f_focusedPane, f_liveCount, a_parent, a_first, a_second, a_orientation, a_share, a_leastWidth, a_leastHeight, a_rectX, a_rectY, a_rectW, a_rectH, a_order, a_live, a_screenWidth, a_screenHeight, a_cursorRow, a_cursorCol, a_regionTop, a_regionBottom, a_parserMode, a_paramOne, a_paramTwo, a_paramIndex, a_cells) := by
  obtain ⟨P, T2, T3, T4, T5, T6, T7⟩ := id T
  refine nm_e ?_
  refine lp4 (fun n k i (o : Nat → Nat) ord => wX_orderNodes_14 post f_hostWidth f_hostHeight f_root f_focusedPane f_liveCount n (nI k) (nI i) a_parent a_first a_second a_orientation a_share a_leastWidth a_leastHeight a_rectX a_rectY a_rectW a_rectH ord a_live a_screenWidth a_screenHeight a_cursorRow a_cursorCol a_regionTop a_regionBottom a_parserMode a_paramOne a_paramTwo a_paramIndex a_cells)
    (fun k i o ord => bf_I c kd en i k o ∧ ∀ j, j < k → ord j = nI (nd (o j))) (fun k i o ord => 16 - i) ?_ 1 0 (fun _ => 0) _ ⟨bf_0 P, ?_⟩
  · intro n k i o ord hI IH
    obtain ⟨I, hord⟩ := hI
    have ik := I.1
    have kc := I.2.2.1
    by_cases h15 : 15 ≤ i
    · have e : i = k := by omega
      subst e
      exact br_t (nI_le (a := 15) h15 (by omega)) (K _ _ _ (bf_done P I) hord)
    · refine br_f (nI_ge (b := 15) (by omega) (by omega)) ?_
      by_cases hk : k ≤ i
      · have e : i = k := by omega
        subst e
        exact br_t (nI_le (Nat.le_refl _) (by omega)) (K _ _ _ (bf_done P I) hord)
      · have oi := I.2.2.2.2.1 i (by omega)
        obtain ⟨t1, t2, t3, t4, t5⟩ := T6 (o i) oi
        refine br_f (nI_ge (by omega) (by omega)) ⟨vi_15 (by omega), nm_r (e' := nI (nd (o i))) (by rw [cg_15 (by omega)]; exact hord i (by omega)) ⟨vi_15 t1, ?_⟩⟩
        rw [cg_15 t1, t3]
        by_cases z : kd (o i) = 0
        · exact br_t z (nm_r (nI_1 i) (IH _ _ o _ ⟨bf_leaf I (by omega) z, hord⟩ (by omega)))
        · have I' := bf_node P I (by omega) z
          have kc' := I'.2.2.1
          obtain ⟨u1, u2, u3, u4, u5, u6⟩ := t5 z
          have e2 : nI k + 2 = nI (k + 2) := nI_add k 2
          refine br_f z (br_f (by rw [e2]; exact nI_nlt (b := k + 2) (a := 15) (by omega) (by omega)) ⟨vi_15 t1, vi_15 (by omega), nm_r (e' := upd ord k (nI (nd (o i + 1)))) (by rw [cg_15 (by omega), u3]) ⟨vi_15 t1, by rw [nI_1]; exact vi_15 (by omega), nm_r (e' := upd (upd ord k (nI (nd (o i + 1)))) (k + 1) (nI (nd (en (o i + 1))))) (by rw [nI_1, cg_15 (by omega), u4]) (nm_r e2 (nm_r (nI_1 i) (IH _ _ (bf_o o k (o i + 1) (en (o i + 1))) _ ⟨I', ?_⟩ (by omega))))⟩⟩)
          intro j hj
          by_cases y : j < k
          · rw [pk_un (by omega), pk_un (by omega), bf_oo y]; exact hord j y
          · by_cases y2 : j = k
            · subst y2
              rw [pk_un (by omega), pk_us, bf_o0]
            · have y3 : j = k + 1 := by omega
              subst y3
              rw [pk_us, bf_o1]
  · intro j hj
    have e : j = 0 := by omega
    subst e
    rw [pk_us, T3]
theorem xw_meas0 {post : St2 → Prop} {n : Nat} (hn : n < 15) (ho : a_orientation n = 0) (K : post (f_hostWidth, f_hostHeight, f_root, f_focusedPane, f_liveCount, a_parent, a_first, a_second, a_orientation, a_share, upd a_leastWidth n 1, upd a_leastHeight n 1, a_rectX, a_rectY, a_rectW, a_rectH, a_order, a_live, a_screenWidth, a_screenHeight, a_cursorRow, a_cursorCol, a_regionTop, a_regionBottom, a_parserMode, a_paramOne, a_paramTwo, a_paramIndex, a_cells)) : wpX_measureNode post (f_hostWidth, f_hostHeight, f_root, f_focusedPane, f_liveCount, a_parent, a_first, a_second, a_orientation, a_share, a_leastWidth, a_leastHeight, a_rectX, a_rectY, a_rectW, a_rectH, a_order, a_live, a_screenWidth, a_screenHeight, a_cursorRow, a_cursorCol, a_regionTop, a_regionBottom, a_parserMode, a_paramOne, a_paramTwo, a_paramIndex, a_cells) (nI n) := by
  refine ⟨vi_15 hn, nm_e ⟨vi_15 hn, nm_e ⟨vi_15 hn, ?_⟩⟩⟩
  rw [cg_15 hn, ho]
  exact br_f (by decide) ⟨vi_15 hn, br_f (by decide) ⟨vi_15 hn, nm_e ⟨vi_15 hn, nm_e K⟩⟩⟩
theorem xw_meas1 {post : St2 → Prop} {n a b : Nat} (hn : n < 15) (ha : a < 15) (hb : b < 15) (hf : a_first n = nI a) (hs : a_second n = nI b) (ho : a_orientation n = 1) (K : post (f_hostWidth, f_hostHeight, f_root, f_focusedPane, f_liveCount, a_parent, a_first, a_second, a_orientation, a_share, upd a_leastWidth n (a_leastWidth a + 1 + a_leastWidth b), upd a_leastHeight n (la_mx (a_leastHeight a) (a_leastHeight b)), a_rectX, a_rectY, a_rectW, a_rectH, a_order, a_live, a_screenWidth, a_screenHeight, a_cursorRow, a_cursorCol, a_regionTop, a_regionBottom, a_parserMode, a_paramOne, a_paramTwo, a_paramIndex, a_cells)) : wpX_measureNode post (f_hostWidth, f_hostHeight, f_root, f_focusedPane, f_liveCount, a_parent, a_first, a_second, a_orientation, a_share, a_leastWidth, a_leastHeight, a_rectX, a_rectY, a_rectW, a_rectH, a_order, a_live, a_screenWidth, a_screenHeight, a_cursorRow, a_cursorCol, a_regionTop, a_regionBottom, a_parserMode, a_paramOne, a_paramTwo, a_paramIndex, a_cells) (nI n) := by
  refine ⟨vi_15 hn, nm_r (e' := nI a) (by rw [cg_15 hn]; exact hf) ⟨vi_15 hn, nm_r (e' := nI b) (by rw [cg_15 hn]; exact hs) ⟨vi_15 hn, ?_⟩⟩⟩
  rw [cg_15 hn, cg_15 ha, cg_15 hb, ho]
  exact br_t rfl ⟨vi_15 ha, vi_15 hb, vi_15 hn, nm_e ⟨vi_15 ha, vi_15 hb, xw_larger ⟨vi_15 hn, nm_e K⟩⟩⟩
theorem xw_meas2 {post : St2 → Prop} {n a b : Nat} (hn : n < 15) (ha : a < 15) (hb : b < 15) (hf : a_first n = nI a) (hs : a_second n = nI b) (ho : a_orientation n = 2) (K : post (f_hostWidth, f_hostHeight, f_root, f_focusedPane, f_liveCount, a_parent, a_first, a_second, a_orientation, a_share, upd a_leastWidth n (la_mx (a_leastWidth a) (a_leastWidth b)), upd a_leastHeight n (a_leastHeight a + 1 + a_leastHeight b), a_rectX, a_rectY, a_rectW, a_rectH, a_order, a_live, a_screenWidth, a_screenHeight, a_cursorRow, a_cursorCol, a_regionTop, a_regionBottom, a_parserMode, a_paramOne, a_paramTwo, a_paramIndex, a_cells)) : wpX_measureNode post (f_hostWidth, f_hostHeight, f_root, f_focusedPane, f_liveCount, a_parent, a_first, a_second, a_orientation, a_share, a_leastWidth, a_leastHeight, a_rectX, a_rectY, a_rectW, a_rectH, a_order, a_live, a_screenWidth, a_screenHeight, a_cursorRow, a_cursorCol, a_regionTop, a_regionBottom, a_parserMode, a_paramOne, a_paramTwo, a_paramIndex, a_cells) (nI n) := by
  refine ⟨vi_15 hn, nm_r (e' := nI a) (by rw [cg_15 hn]; exact hf) ⟨vi_15 hn, nm_r (e' := nI b) (by rw [cg_15 hn]; exact hs) ⟨vi_15 hn, ?_⟩⟩⟩
  rw [cg_15 hn, cg_15 ha, cg_15 hb, ho]
  exact br_f (by decide) ⟨vi_15 hn, br_t rfl ⟨vi_15 ha, vi_15 hb, xw_larger ⟨vi_15 hn, nm_e ⟨vi_15 ha, vi_15 hb, vi_15 hn, nm_e K⟩⟩⟩⟩
theorem xw_extent {post : Int32 → Prop} {w s a b : Int32} (K : post (la_v w s a b)) : wpX_firstExtent post () w s a b := ⟨by decide, nm_e (xw_larger (xw_smaller K))⟩
theorem xw_pnode {post : St2 → Prop} {n : Nat} {x y w h : Int32} (hn : n < 15) (K : post (f_hostWidth, f_hostHeight, f_root, f_focusedPane, f_liveCount, a_parent, a_first, a_second, a_orientation, a_share, a_leastWidth, a_leastHeight, upd a_rectX n x, upd a_rectY n y, upd a_rectW n w, upd a_rectH n h, a_order, a_live, a_screenWidth, a_screenHeight, a_cursorRow, a_cursorCol, a_regionTop, a_regionBottom, a_parserMode, a_paramOne, a_paramTwo, a_paramIndex, a_cells)) : wpX_placeNode post (f_hostWidth, f_hostHeight, f_root, f_focusedPane, f_liveCount, a_parent, a_first, a_second, a_orientation, a_share, a_leastWidth, a_leastHeight, a_rectX, a_rectY, a_rectW, a_rectH, a_order, a_live, a_screenWidth, a_screenHeight, a_cursorRow, a_cursorCol, a_regionTop, a_regionBottom, a_parserMode, a_paramOne, a_paramTwo, a_paramIndex, a_cells) (nI n) x y w h := by
  have e := cg_15 hn
  exact ⟨vi_15 hn, nm_r (e' := upd a_rectX n x) (by rw [e]) ⟨vi_15 hn, nm_r (e' := upd a_rectY n y) (by rw [e]) ⟨vi_15 hn, nm_r (e' := upd a_rectW n w) (by rw [e]) ⟨vi_15 hn, nm_r (e' := upd a_rectH n h) (by rw [e]) K⟩⟩⟩⟩
theorem xw_place0 {post : St2 → Prop} {n : Nat} (hn : n < 15) (ho : a_orientation n = 0) (K : post (f_hostWidth, f_hostHeight, f_root, f_focusedPane, f_liveCount, a_parent, a_first, a_second, a_orientation, a_share, a_leastWidth, a_leastHeight, a_rectX, a_rectY, a_rectW, a_rectH, a_order, a_live, a_screenWidth, a_screenHeight, a_cursorRow, a_cursorCol, a_regionTop, a_regionBottom, a_parserMode, a_paramOne, a_paramTwo, a_paramIndex, a_cells)) : wpX_placeChildren post (f_hostWidth, f_hostHeight, f_root, f_focusedPane, f_liveCount, a_parent, a_first, a_second, a_orientation, a_share, a_leastWidth, a_leastHeight, a_rectX, a_rectY, a_rectW, a_rectH, a_order, a_live, a_screenWidth, a_screenHeight, a_cursorRow, a_cursorCol, a_regionTop, a_regionBottom, a_parserMode, a_paramOne, a_paramTwo, a_paramIndex, a_cells) (nI n) := by
  refine ⟨vi_15 hn, nm_e ⟨vi_15 hn, nm_e ⟨vi_15 hn, nm_e ⟨vi_15 hn, nm_e ⟨vi_15 hn, nm_e ⟨vi_15 hn, nm_e ⟨vi_15 hn, ?_⟩⟩⟩⟩⟩⟩⟩
  rw [cg_15 hn, ho]
  exact br_f (by decide) ⟨vi_15 hn, br_f (by decide) K⟩
theorem xw_place1 {post : St2 → Prop} {n a b : Nat} (hn : n < 15) (ha : a < 15) (hb : b < 15) (hf : a_first n = nI a) (hs : a_second n = nI b) (ho : a_orientation n = 1) {v : Int32} (hv : v = la_v (a_rectW n) (a_share n) (a_leastWidth a) (a_leastWidth b))
    (K : post (f_hostWidth, f_hostHeight, f_root, f_focusedPane, f_liveCount, a_parent, a_first, a_second, a_orientation, a_share, a_leastWidth, a_leastHeight, upd (upd a_rectX a (a_rectX n)) b (a_rectX n + v + 1), upd (upd a_rectY a (a_rectY n)) b (a_rectY n), upd (upd a_rectW a v) b (a_rectW n - v - 1), upd (upd a_rectH a (a_rectH n)) b (a_rectH n), a_order, a_live, a_screenWidth, a_screenHeight, a_cursorRow, a_cursorCol, a_regionTop, a_regionBottom, a_parserMode, a_paramOne, a_paramTwo, a_paramIndex, a_cells)) : wpX_placeChildren post (f_hostWidth, f_hostHeight, f_root, f_focusedPane, f_liveCount, a_parent, a_first, a_second, a_orientation, a_share, a_leastWidth, a_leastHeight, a_rectX, a_rectY, a_rectW, a_rectH, a_order, a_live, a_screenWidth, a_screenHeight, a_cursorRow, a_cursorCol, a_regionTop, a_regionBottom, a_parserMode, a_paramOne, a_paramTwo, a_paramIndex, a_cells) (nI n) := by
  subst hv
  refine ⟨vi_15 hn, nm_r (e' := nI a) (by rw [cg_15 hn]; exact hf) ⟨vi_15 hn, nm_r (e' := nI b) (by rw [cg_15 hn]; exact hs) ⟨vi_15 hn, nm_e ⟨vi_15 hn, nm_e ⟨vi_15 hn, nm_e ⟨vi_15 hn, nm_e ⟨vi_15 hn, ?_⟩⟩⟩⟩⟩⟩⟩
  rw [cg_15 hn, cg_15 ha, cg_15 hb, ho]
  exact br_t rfl ⟨vi_15 hn, vi_15 ha, vi_15 hb, xw_extent (xw_pnode ha (xw_pnode hb K))⟩
theorem xw_place2 {post : St2 → Prop} {n a b : Nat} (hn : n < 15) (ha : a < 15) (hb : b < 15) (hf : a_first n = nI a) (hs : a_second n = nI b) (ho : a_orientation n = 2) {v : Int32} (hv : v = la_v (a_rectH n) (a_share n) (a_leastHeight a) (a_leastHeight b))
    (K : post (f_hostWidth, f_hostHeight, f_root, f_focusedPane, f_liveCount, a_parent, a_first, a_second, a_orientation, a_share, a_leastWidth, a_leastHeight, upd (upd a_rectX a (a_rectX n)) b (a_rectX n), upd (upd a_rectY a (a_rectY n)) b (a_rectY n + v + 1), upd (upd a_rectW a (a_rectW n)) b (a_rectW n), upd (upd a_rectH a v) b (a_rectH n - v - 1), a_order, a_live, a_screenWidth, a_screenHeight, a_cursorRow, a_cursorCol, a_regionTop, a_regionBottom, a_parserMode, a_paramOne, a_paramTwo, a_paramIndex, a_cells)) : wpX_placeChildren post (f_hostWidth, f_hostHeight, f_root, f_focusedPane, f_liveCount, a_parent, a_first, a_second, a_orientation, a_share, a_leastWidth, a_leastHeight, a_rectX, a_rectY, a_rectW, a_rectH, a_order, a_live, a_screenWidth, a_screenHeight, a_cursorRow, a_cursorCol, a_regionTop, a_regionBottom, a_parserMode, a_paramOne, a_paramTwo, a_paramIndex, a_cells) (nI n) := by
  subst hv
  refine ⟨vi_15 hn, nm_r (e' := nI a) (by rw [cg_15 hn]; exact hf) ⟨vi_15 hn, nm_r (e' := nI b) (by rw [cg_15 hn]; exact hs) ⟨vi_15 hn, nm_e ⟨vi_15 hn, nm_e ⟨vi_15 hn, nm_e ⟨vi_15 hn, nm_e ⟨vi_15 hn, ?_⟩⟩⟩⟩⟩⟩⟩
  rw [cg_15 hn, cg_15 ha, cg_15 hb, ho]
  exact br_f (by decide) ⟨vi_15 hn, br_t rfl ⟨vi_15 hn, vi_15 ha, vi_15 hb, xw_extent (xw_pnode ha (xw_pnode hb K))⟩⟩
end XL
