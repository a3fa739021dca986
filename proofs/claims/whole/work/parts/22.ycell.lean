section YC
variable {f_count f_hostW f_hostH f_focus f_resW f_resH : Int32} {a_kind a_val a_tk a_tv a_live a_wasLive a_rx a_ry a_rw a_rh a_oldW a_oldH a_row a_col a_top a_bot a_mode a_p1 a_p2 a_k a_cells a_sx a_sy a_sw a_sh a_mw a_mh : Nat → Int32}
theorem yw_fresh10 {post : SY → Prop} {J : _} {g r : Nat} {S S' : Nat → Prop} {a : Nat → Int32} (hg : g < 8) (hr : r < 12) (hS : ∀ j, S' j ↔ S j ∨ (g * 288 + r * 24 + 0 ≤ j ∧ j < g * 288 + r * 24 + 24))
    (K : J (nI (r + 1)) a_kind a_val a_tk a_tv a_live a_wasLive a_rx a_ry a_rw a_rh a_oldW a_oldH a_row a_col a_top a_bot a_mode a_p1 a_p2 a_k (ce_w S' a) a_sx a_sy a_sw a_sh a_mw a_mh) : ∃ n, wY_fresh_10 post J (nI g) (nI r) f_count f_hostW f_hostH f_focus f_resW f_resH n 0 a_kind a_val a_tk a_tv a_live a_wasLive a_rx a_ry a_rw a_rh a_oldW a_oldH a_row a_col a_top a_bot a_mode a_p1 a_p2 a_k (ce_w S a) a_sx a_sy a_sw a_sh a_mw a_mh := by
  refine pk_loop (fun n i s => wY_fresh_10 post J (nI g) (nI r) f_count f_hostW f_hostH f_focus f_resW f_resH n (nI i) a_kind a_val a_tk a_tv a_live a_wasLive a_rx a_ry a_rw a_rh a_oldW a_oldH a_row a_col a_top a_bot a_mode a_p1 a_p2 a_k s a_sx a_sy a_sw a_sh a_mw a_mh)
      (fun i s => s = ce_w (fun j => S j ∨ (g * 288 + r * 24 + 0 ≤ j ∧ j < g * 288 + r * 24 + i)) a) 24 0 _ (Nat.zero_le _) ?_ ?_ ?_
  · exact ce_we (fun j => ce_g0 (Nat.le_refl _))
  · intro n s hs
    refine br_t (nI_le (a := 24) (Nat.le_refl _) (by omega)) (nm_r (nI_1 r) ?_)
    rw [hs, ce_we (R := S') (fun j => (hS j).symm)]
    exact K
  · intro n i s hi hs k
    have ei := xc_i g r i
    refine br_f (nI_ge (b := 24) hi (by omega)) ⟨by rw [ei]; exact vp_in_nI (by omega) (by omega), nm_r (e' := ce_w (fun j => S j ∨ (g * 288 + r * 24 + 0 ≤ j ∧ j < g * 288 + r * 24 + (i + 1))) a) ?_ (nm_r (nI_1 i) (k _ rfl))⟩
    rw [ei, nI_clamp (by omega), nr_32, hs]
    exact ce_wu (fun j => ce_g1 (lo := g * 288 + r * 24 + 0) (hi := g * 288 + r * 24 + i) (by omega))
theorem yw_fresh {post : SY → Prop} {g : Nat} (hg : g < 8) (K : post (f_count, f_hostW, f_hostH, f_focus, f_resW, f_resH, a_kind, a_val, a_tk, a_tv, a_live, a_wasLive, a_rx, a_ry, a_rw, a_rh, a_oldW, a_oldH, upd a_row g 0, upd a_col g 0, upd a_top g 0, upd a_bot g (a_rh g - 1), upd a_mode g 0, upd a_p1 g 0, upd a_p2 g 0, upd a_k g 0, ce_w (ce_q (g * 288) 0 0 12 24) a_cells, a_sx, a_sy, a_sw, a_sh, a_mw, a_mh)) : wpY_fresh post (f_count, f_hostW, f_hostH, f_focus, f_resW, f_resH, a_kind, a_val, a_tk, a_tv, a_live, a_wasLive, a_rx, a_ry, a_rw, a_rh, a_oldW, a_oldH, a_row, a_col, a_top, a_bot, a_mode, a_p1, a_p2, a_k, a_cells, a_sx, a_sy, a_sw, a_sh, a_mw, a_mh) (nI g) := by
  refine pk_loop (fun n i s => wY_fresh_2 post (nI g) f_count f_hostW f_hostH f_focus f_resW f_resH n (nI i) a_kind a_val a_tk a_tv a_live a_wasLive a_rx a_ry a_rw a_rh a_oldW a_oldH a_row a_col a_top a_bot a_mode a_p1 a_p2 a_k s a_sx a_sy a_sw a_sh a_mw a_mh)
    (fun i s => s = ce_w (ce_q (g * 288) 0 0 i 24) a_cells) 12 0 _ (Nat.zero_le _) ?_ ?_ ?_
  · refine (ce_w0 (fun j z => ?_)).symm
    obtain ⟨z1, z2, z3, z4, z5⟩ := z
    omega
  · intro n s hs
    refine br_t (nI_le (a := 12) (Nat.le_refl _) (by omega)) ?_
    rw [hs, cg_8 hg]
    exact ⟨vi_8 hg, nm_e ⟨vi_8 hg, nm_e ⟨vi_8 hg, nm_e ⟨vi_8 hg, vi_8 hg, nm_e ⟨vi_8 hg, nm_e ⟨vi_8 hg, nm_e ⟨vi_8 hg, nm_e ⟨vi_8 hg, nm_e K⟩⟩⟩⟩⟩⟩⟩⟩
  · intro n i s hi hs k
    subst hs
    exact br_f (nI_ge (b := 12) hi (by omega)) (yw_fresh10 hg (by omega) (fun j => ce_g2 (by omega) (Nat.zero_le _)) (k _ rfl))
theorem yw_scr110 {post : SY → Prop} {g b l : Nat} {a : Nat → Int32} (hg : g < 8) (hB : a_bot g = nI b) (hb : b < 12) (hl : l = g * 288 + b * 24) (K : post (f_count, f_hostW, f_hostH, f_focus, f_resW, f_resH, a_kind, a_val, a_tk, a_tv, a_live, a_wasLive, a_rx, a_ry, a_rw, a_rh, a_oldW, a_oldH, a_row, a_col, a_top, a_bot, a_mode, a_p1, a_p2, a_k, ce_w (fun j => l ≤ j ∧ j < l + 24) a, a_sx, a_sy, a_sw, a_sh, a_mw, a_mh)) : ∃ n, wY_scroll_110 post (nI g) (nI (g * 288)) f_count f_hostW f_hostH f_focus f_resW f_resH n 0 a_kind a_val a_tk a_tv a_live a_wasLive a_rx a_ry a_rw a_rh a_oldW a_oldH a_row a_col a_top a_bot a_mode a_p1 a_p2 a_k a a_sx a_sy a_sw a_sh a_mw a_mh := by
  refine pk_loop (fun n i s => wY_scroll_110 post (nI g) (nI (g * 288)) f_count f_hostW f_hostH f_focus f_resW f_resH n (nI i) a_kind a_val a_tk a_tv a_live a_wasLive a_rx a_ry a_rw a_rh a_oldW a_oldH a_row a_col a_top a_bot a_mode a_p1 a_p2 a_k s a_sx a_sy a_sw a_sh a_mw a_mh)
    (fun i s => s = ce_w (fun j => l ≤ j ∧ j < l + i) a) 24 0 _ (Nat.zero_le _) ?_ ?_ ?_
  · exact (ce_w0 (fun j z => by omega)).symm
  · intro n s hs
    refine br_t (nI_le (a := 24) (Nat.le_refl _) (by omega)) ?_
    rw [hs]
    exact K
  · intro n i s hi hs k
    have ei : nI (g * 288) + nI b * 24 + nI i = nI (l + i) := by rw [show (24 : Int32) = nI 24 from rfl, pk_mul, nI_add, nI_add, hl]
    refine br_f (nI_ge (b := 24) hi (by omega)) ⟨vi_8 hg, ?_⟩
    rw [cg_8 hg, hB, ei]
    refine ⟨vp_in_nI (by omega) (by omega), nm_r (e' := ce_w (fun j => l ≤ j ∧ j < l + (i + 1)) a) ?_ (nm_r (nI_1 i) (k _ rfl))⟩
    rw [nI_clamp (by omega), nr_32, hs]
    exact ce_wu (fun j => ce_g3 (lo := l) (hi := l + i) (by omega))
theorem yw_scr39 {post : SY → Prop} {J : _} {B r s0 : Nat} {x1 : Int32} {a : Nat → Int32} (h0 : s0 ≤ B + r * 24) (hB : B + (r + 1) * 24 + 24 ≤ 2304) (ch : ∀ j, s0 ≤ j → j < B + (r + 1) * 24 + 24 → ∃ n, n < 65536 ∧ a j = nI n)
    (K : J (nI (r + 1)) a_kind a_val a_tk a_tv a_live a_wasLive a_rx a_ry a_rw a_rh a_oldW a_oldH a_row a_col a_top a_bot a_mode a_p1 a_p2 a_k (ce_m a s0 (B + (r + 1) * 24)) a_sx a_sy a_sw a_sh a_mw a_mh) : ∃ n, wY_scroll_39 post J x1 (nI B) (nI r) f_count f_hostW f_hostH f_focus f_resW f_resH n 0 a_kind a_val a_tk a_tv a_live a_wasLive a_rx a_ry a_rw a_rh a_oldW a_oldH a_row a_col a_top a_bot a_mode a_p1 a_p2 a_k (ce_m a s0 (B + r * 24)) a_sx a_sy a_sw a_sh a_mw a_mh := by
  refine pk_loop (fun n i s => wY_scroll_39 post J x1 (nI B) (nI r) f_count f_hostW f_hostH f_focus f_resW f_resH n (nI i) a_kind a_val a_tk a_tv a_live a_wasLive a_rx a_ry a_rw a_rh a_oldW a_oldH a_row a_col a_top a_bot a_mode a_p1 a_p2 a_k s a_sx a_sy a_sw a_sh a_mw a_mh)
    (fun i s => s = ce_m a s0 (B + r * 24 + i)) 24 0 _ (Nat.zero_le _) rfl ?_ ?_
  · intro n s hs
    refine br_t (nI_le (a := 24) (Nat.le_refl _) (by omega)) (nm_r (nI_1 r) ?_)
    rw [hs, show B + r * 24 + 24 = B + (r + 1) * 24 by omega]
    exact K
  · intro n i s hi hs k
    have e1 : nI B + nI r * 24 + nI i = nI (B + r * 24 + i) := by rw [show (24 : Int32) = nI 24 from rfl, pk_mul, nI_add, nI_add]
    have e2 : nI B + (nI r + 1) * 24 + nI i = nI (B + r * 24 + i + 24) := by rw [nI_1, show (24 : Int32) = nI 24 from rfl, pk_mul, nI_add, nI_add]; exact congrArg nI (by omega)
    refine br_f (nI_ge (b := 24) hi (by omega)) ?_
    rw [e1, e2]
    refine ⟨vp_in_nI (by omega) (by omega), vp_in_nI (by omega) (by omega), nm_r (e' := ce_m a s0 (B + r * 24 + (i + 1))) ?_ (nm_r (nI_1 i) (k _ rfl))⟩
    obtain ⟨n, hn, en⟩ := ch (B + r * 24 + i + 24) (by omega) (by omega)
    have e : ce_m a s0 (B + r * 24 + i) (B + r * 24 + i + 24) = a (B + r * 24 + i + 24) := by unfold ce_m; rw [if_neg (by omega)]
    have m := ce_mu (a := a) (s := s0) (i := B + r * 24 + i) (by omega)
    rw [nI_clamp (by omega), nI_clamp (by omega), hs]
    rw [e] at m ⊢
    rw [en, nr_c hn, ← en]
    exact m
theorem yw_scroll {post : SY → Prop} {g t b : Nat} (hg : g < 8) (hT : a_top g = nI t) (hB : a_bot g = nI b) (htb : t ≤ b) (hb : b < 12) (H : ce_H (g * 288) a_cells)
    (K : post (f_count, f_hostW, f_hostH, f_focus, f_resW, f_resH, a_kind, a_val, a_tk, a_tv, a_live, a_wasLive, a_rx, a_ry, a_rw, a_rh, a_oldW, a_oldH, a_row, a_col, a_top, a_bot, a_mode, a_p1, a_p2, a_k, ce_c (g * 288 + t * 24) (g * 288 + b * 24) a_cells, a_sx, a_sy, a_sw, a_sh, a_mw, a_mh)) : wpY_scroll post (f_count, f_hostW, f_hostH, f_focus, f_resW, f_resH, a_kind, a_val, a_tk, a_tv, a_live, a_wasLive, a_rx, a_ry, a_rw, a_rh, a_oldW, a_oldH, a_row, a_col, a_top, a_bot, a_mode, a_p1, a_p2, a_k, a_cells, a_sx, a_sy, a_sw, a_sh, a_mw, a_mh) (nI g) := by
  have e1 : nI g * 288 = nI (g * 288) := pk_mul g 288
  refine nm_r e1 ⟨vi_8 hg, nm_r (e' := nI t) (by rw [cg_8 hg]; exact hT) ?_⟩
  refine pk_loop (fun n i s => wY_scroll_13 post (nI g) (nI (g * 288)) f_count f_hostW f_hostH f_focus f_resW f_resH n (nI i) a_kind a_val a_tk a_tv a_live a_wasLive a_rx a_ry a_rw a_rh a_oldW a_oldH a_row a_col a_top a_bot a_mode a_p1 a_p2 a_k s a_sx a_sy a_sw a_sh a_mw a_mh)
    (fun i s => t ≤ i ∧ s = ce_m a_cells (g * 288 + t * 24) (g * 288 + i * 24)) b t _ htb ⟨Nat.le_refl _, ce_m0.symm⟩ ?_ ?_
  · intro n s hs
    refine ⟨vi_8 hg, ?_⟩
    rw [cg_8 hg, hB]
    refine br_t (nI_le (Nat.le_refl _) (by omega)) ⟨vi_8 hg, ?_⟩
    rw [cg_8 hg, hB, hs.2]
    exact br_f (nI_pos (by omega)) ⟨vi_8 hg, br_f (nI_ge (b := 12) hb (by omega)) (yw_scr110 hg hB hb rfl K)⟩
  · intro n i s hi hs k
    obtain ⟨h1, h2⟩ := hs
    subst h2
    refine ⟨vi_8 hg, ?_⟩
    rw [cg_8 hg, hB]
    exact br_f (nI_ge hi (by omega)) (br_f (nI_ge (b := 11) (by omega) (by omega)) (br_t (nI_pos' (by omega)) (yw_scr39 (by omega) (by omega) (fun j h1 h2 => H j (by omega) (by omega)) (k _ ⟨by omega, rfl⟩))))
theorem yw_lineFeed {post : SY → Prop} {g t b r h : Nat} (hg : g < 8) (hT : a_top g = nI t) (hB : a_bot g = nI b) (htb : t ≤ b) (hb : b < 12) (hR : a_row g = nI r) (hr : r < h) (hh : h ≤ 12) (hS : a_rh g = nI h) (H : ce_H (g * 288) a_cells)
    (k1 : r = b → post (f_count, f_hostW, f_hostH, f_focus, f_resW, f_resH, a_kind, a_val, a_tk, a_tv, a_live, a_wasLive, a_rx, a_ry, a_rw, a_rh, a_oldW, a_oldH, a_row, a_col, a_top, a_bot, a_mode, a_p1, a_p2, a_k, ce_n (g * 288 + t * 24) (g * 288 + b * 24) 1 a_cells, a_sx, a_sy, a_sw, a_sh, a_mw, a_mh)) (k2 : r ≠ b → h - 1 ≤ r → post (f_count, f_hostW, f_hostH, f_focus, f_resW, f_resH, a_kind, a_val, a_tk, a_tv, a_live, a_wasLive, a_rx, a_ry, a_rw, a_rh, a_oldW, a_oldH, a_row, a_col, a_top, a_bot, a_mode, a_p1, a_p2, a_k, a_cells, a_sx, a_sy, a_sw, a_sh, a_mw, a_mh)) (k3 : r ≠ b → r < h - 1 → post (f_count, f_hostW, f_hostH, f_focus, f_resW, f_resH, a_kind, a_val, a_tk, a_tv, a_live, a_wasLive, a_rx, a_ry, a_rw, a_rh, a_oldW, a_oldH, upd a_row g (nI (r + 1)), a_col, a_top, a_bot, a_mode, a_p1, a_p2, a_k, a_cells, a_sx, a_sy, a_sw, a_sh, a_mw, a_mh)) : wpY_lineFeed post (f_count, f_hostW, f_hostH, f_focus, f_resW, f_resH, a_kind, a_val, a_tk, a_tv, a_live, a_wasLive, a_rx, a_ry, a_rw, a_rh, a_oldW, a_oldH, a_row, a_col, a_top, a_bot, a_mode, a_p1, a_p2, a_k, a_cells, a_sx, a_sy, a_sw, a_sh, a_mw, a_mh) (nI g) := by
  refine ⟨vi_8 hg, vi_8 hg, ?_⟩
  rw [cg_8 hg, hR, hB]
  refine pk_eq r b (fun z => yw_scroll hg hT hB htb hb H (k1 z)) (fun z => ⟨vi_8 hg, vi_8 hg, ?_⟩)
  rw [hS, la_sub1 (by omega)]
  exact pk_le (h - 1) r (fun y => k2 z y) (fun y => ⟨vi_8 hg, vi_8 hg, nm_r (by rw [nI_1]) (k3 z y)⟩)
theorem yw_many {post : SY → Prop} {g t b m : Nat} (hg : g < 8) (hT : a_top g = nI t) (hB : a_bot g = nI b) (htb : t ≤ b) (hb : b < 12) (hm : m < 2 ^ 31) (H : ce_H (g * 288) a_cells)
    (K : post (f_count, f_hostW, f_hostH, f_focus, f_resW, f_resH, a_kind, a_val, a_tk, a_tv, a_live, a_wasLive, a_rx, a_ry, a_rw, a_rh, a_oldW, a_oldH, a_row, a_col, a_top, a_bot, a_mode, a_p1, a_p2, a_k, ce_n (g * 288 + t * 24) (g * 288 + b * 24) m a_cells, a_sx, a_sy, a_sw, a_sh, a_mw, a_mh)) : ∃ n, wY_finalByte_331 post (nI g) (nI m) n 0 f_count f_hostW f_hostH f_focus f_resW f_resH a_kind a_val a_tk a_tv a_live a_wasLive a_rx a_ry a_rw a_rh a_oldW a_oldH a_row a_col a_top a_bot a_mode a_p1 a_p2 a_k a_cells a_sx a_sy a_sw a_sh a_mw a_mh := by
  refine pk_loop (fun n i s => wY_finalByte_331 post (nI g) (nI m) n (nI i) f_count f_hostW f_hostH f_focus f_resW f_resH a_kind a_val a_tk a_tv a_live a_wasLive a_rx a_ry a_rw a_rh a_oldW a_oldH a_row a_col a_top a_bot a_mode a_p1 a_p2 a_k s a_sx a_sy a_sw a_sh a_mw a_mh)
    (fun i s => s = ce_n (g * 288 + t * 24) (g * 288 + b * 24) i a_cells) m 0 _ (Nat.zero_le _) rfl ?_ ?_
  · intro n s hs
    refine br_t (nI_le (Nat.le_refl _) hm) ?_
    rw [hs]
    exact K
  · intro n i s hi hs k
    subst hs
    exact br_f (nI_ge hi hm) (yw_scroll hg hT hB htb hb (ce_Hn hb H i) (nm_r (nI_1 i) (k _ rfl)))
theorem yw_clear {post : SY → Prop} {g : Nat} (hg : g < 8) (K : post (f_count, f_hostW, f_hostH, f_focus, f_resW, f_resH, a_kind, a_val, a_tk, a_tv, a_live, a_wasLive, a_rx, a_ry, a_rw, a_rh, a_oldW, a_oldH, a_row, a_col, a_top, a_bot, a_mode, a_p1, a_p2, a_k, ce_w (fun j => g * 288 ≤ j ∧ j < g * 288 + 288) a_cells, a_sx, a_sy, a_sw, a_sh, a_mw, a_mh)) : ∃ n, wY_finalByte_228 post (nI g) f_count f_hostW f_hostH f_focus f_resW f_resH n 0 a_kind a_val a_tk a_tv a_live a_wasLive a_rx a_ry a_rw a_rh a_oldW a_oldH a_row a_col a_top a_bot a_mode a_p1 a_p2 a_k a_cells a_sx a_sy a_sw a_sh a_mw a_mh := by
  refine pk_loop (fun n i s => wY_finalByte_228 post (nI g) f_count f_hostW f_hostH f_focus f_resW f_resH n (nI i) a_kind a_val a_tk a_tv a_live a_wasLive a_rx a_ry a_rw a_rh a_oldW a_oldH a_row a_col a_top a_bot a_mode a_p1 a_p2 a_k s a_sx a_sy a_sw a_sh a_mw a_mh)
    (fun i s => s = ce_w (fun j => g * 288 ≤ j ∧ j < g * 288 + i) a_cells) 288 0 _ (Nat.zero_le _) ?_ ?_ ?_
  · exact (ce_w0 (fun j z => by omega)).symm
  · intro n s hs
    refine br_t (nI_le (a := 288) (Nat.le_refl _) (by omega)) ?_
    rw [hs]
    exact K
  · intro n i s hi hs k
    have ei : nI g * 288 + nI i = nI (g * 288 + i) := by rw [show (288 : Int32) = nI 288 from rfl, pk_mul, nI_add]
    refine br_f (nI_ge (b := 288) hi (by omega)) ?_
    rw [ei]
    refine ⟨vp_in_nI (by omega) (by omega), nm_r (e' := ce_w (fun j => g * 288 ≤ j ∧ j < g * 288 + (i + 1)) a_cells) ?_ (nm_r (nI_1 i) (k _ rfl))⟩
    rw [nI_clamp (by omega), nr_32, hs]
    exact ce_wu (fun j => ce_g3 (lo := g * 288) (hi := g * 288 + i) (by omega))
theorem yw_clrow {post : SY → Prop} {g r q w : Nat} (hg : g < 8) (hR : a_row g = nI r) (hr : r < 12) (hq : q ≤ w) (hw : w ≤ 24) (K : post (f_count, f_hostW, f_hostH, f_focus, f_resW, f_resH, a_kind, a_val, a_tk, a_tv, a_live, a_wasLive, a_rx, a_ry, a_rw, a_rh, a_oldW, a_oldH, a_row, a_col, a_top, a_bot, a_mode, a_p1, a_p2, a_k, ce_w (ce_q (g * 288) r q (r + 1) w) a_cells, a_sx, a_sy, a_sw, a_sh, a_mw, a_mh)) : ∃ n, wY_finalByte_274 post (nI g) (nI w) f_count f_hostW f_hostH f_focus f_resW f_resH n (nI q) a_kind a_val a_tk a_tv a_live a_wasLive a_rx a_ry a_rw a_rh a_oldW a_oldH a_row a_col a_top a_bot a_mode a_p1 a_p2 a_k a_cells a_sx a_sy a_sw a_sh a_mw a_mh := by
  refine pk_loop (fun n i s => wY_finalByte_274 post (nI g) (nI w) f_count f_hostW f_hostH f_focus f_resW f_resH n (nI i) a_kind a_val a_tk a_tv a_live a_wasLive a_rx a_ry a_rw a_rh a_oldW a_oldH a_row a_col a_top a_bot a_mode a_p1 a_p2 a_k s a_sx a_sy a_sw a_sh a_mw a_mh)
    (fun i s => q ≤ i ∧ s = ce_w (fun j => g * 288 + r * 24 + q ≤ j ∧ j < g * 288 + r * 24 + i) a_cells) w q _ hq ?_ ?_ ?_
  · exact ⟨Nat.le_refl _, (ce_w0 (fun j z => by omega)).symm⟩
  · intro n s hs
    refine br_t (nI_le (Nat.le_refl _) (by omega)) ?_
    rw [hs.2, ce_we (R := ce_q (g * 288) r q (r + 1) w) (fun j => by unfold ce_q; constructor <;> intro z <;> omega)]
    exact K
  · intro n i s hi hs k
    have ei := xc_i g r i
    refine br_f (nI_ge hi (by omega)) (br_f (nI_ge (b := 24) (by omega) (by omega)) ⟨vi_8 hg, ?_⟩)
    rw [cg_8 hg, hR, ei]
    refine ⟨vp_in_nI (by omega) (by omega), nm_r (e' := ce_w (fun j => g * 288 + r * 24 + q ≤ j ∧ j < g * 288 + r * 24 + (i + 1)) a_cells) ?_ (nm_r (nI_1 i) (k _ ⟨by omega, rfl⟩))⟩
    rw [nI_clamp (by omega), nr_32, hs.2]
    exact ce_wu (fun j => ce_g3 (lo := g * 288 + r * 24 + q) (hi := g * 288 + r * 24 + i) (by omega))
end YC
