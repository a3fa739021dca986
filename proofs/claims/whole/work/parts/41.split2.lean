section SQ
variable {f_hostWidth f_hostHeight f_root f_focusedPane f_liveCount : Int32} {a_parent a_first a_second a_orientation a_share a_leastWidth a_leastHeight a_rectX a_rectY a_rectW a_rectH a_order a_live a_screenWidth a_screenHeight a_cursorRow a_cursorCol a_regionTop a_regionBottom a_parserMode a_paramOne a_paramTwo a_paramIndex a_cells : Nat → Int32} {f_count f_hostW f_hostH f_focus f_resW f_resH : Int32} {a_kind a_val a_tk a_tv b_live a_wasLive a_rx a_ry a_rw a_rh a_oldW a_oldH a_row a_col a_top a_bot a_mode a_p1 a_p2 a_k b_cells a_sx a_sy a_sw a_sh a_mw a_mh : Nat → Int32}
variable {k : Nat} {v1 : Int32} {c : Nat} {nd en po : Nat → Nat} {w0 h0 f : Nat}
theorem sp_main (J : rl_J (nI w0) (nI h0) f_root (nI f) f_liveCount a_parent a_first a_second a_orientation a_share a_leastWidth a_leastHeight a_rectX a_rectY a_rectW a_rectH a_order a_live a_screenWidth a_screenHeight a_cursorRow a_cursorCol a_regionTop a_regionBottom a_parserMode a_paramOne a_paramTwo a_paramIndex a_cells (nI c) (nI w0) (nI h0) (nI f) f_resW f_resH a_kind a_val a_tk a_tv a_live a_wasLive a_rx a_ry a_rw a_rh a_oldW a_oldH a_cursorRow a_cursorCol a_regionTop a_regionBottom a_parserMode a_paramOne a_paramTwo a_paramIndex b_cells a_sx a_sy a_sw a_sh a_mw a_mh c nd en po w0 h0 f) (hv : v1 = 1 ∨ v1 = 2) :
    wX_split_12 (fun r u' => wpY_split (fun r' v' => r' = r ∧ i_Rel (k + 4) u' v') (nI c, nI w0, nI h0, nI f, f_resW, f_resH, a_kind, a_val, a_tk, a_tv, a_live, a_wasLive, a_rx, a_ry, a_rw, a_rh, a_oldW, a_oldH, a_cursorRow, a_cursorCol, a_regionTop, a_regionBottom, a_parserMode, a_paramOne, a_paramTwo, a_paramIndex, b_cells, a_sx, a_sy, a_sw, a_sh, a_mw, a_mh) v1) v1 (nI w0) (nI h0) f_root (nI f) f_liveCount a_parent a_first a_second a_orientation a_share a_leastWidth a_leastHeight a_rectX a_rectY a_rectW a_rectH a_order a_live a_screenWidth a_screenHeight a_cursorRow a_cursorCol a_regionTop a_regionBottom a_parserMode a_paramOne a_paramTwo a_paramIndex a_cells := by
  have J0 := J
  obtain ⟨_, _, _, _, _, j6, _, _, j9, j10, _, _, _, _, _, _, _, _, _, G, Pn⟩ := J
  obtain ⟨T, L, E, g1, g2, g3, g4, g5, g6, g7⟩ := id G
  obtain ⟨P, T2, T3, T4, T5, T6, T7⟩ := id T
  obtain ⟨p, hp, kp, ep⟩ := rl_leaf G j6 j9
  subst ep
  have p8 := j6
  have v15p : vp_in (nI (nd p)) 15 := vi_15 (by omega)
  have c15p : (nI (nd p)).toNatClampNeg = nd p := cg_15 (by omega)
  have cnt := lv_c T g7
  have Y0 : ∀ post : Int32 → SY → Prop, wY_split_12 post v1 (nI c) (nI w0) (nI h0) (nI (nd p)) f_resW f_resH a_kind a_val a_tk a_tv a_live a_wasLive a_rx a_ry a_rw a_rh a_oldW a_oldH a_cursorRow a_cursorCol a_regionTop a_regionBottom a_parserMode a_paramOne a_paramTwo a_paramIndex b_cells a_sx a_sy a_sw a_sh a_mw a_mh → wpY_split post (nI c, nI w0, nI h0, nI (nd p), f_resW, f_resH, a_kind, a_val, a_tk, a_tv, a_live, a_wasLive, a_rx, a_ry, a_rw, a_rh, a_oldW, a_oldH, a_cursorRow, a_cursorCol, a_regionTop, a_regionBottom, a_parserMode, a_paramOne, a_paramTwo, a_paramIndex, b_cells, a_sx, a_sy, a_sw, a_sh, a_mw, a_mh) v1 := by
    intro post K
    rcases hv with h | h
    · exact br_t h K
    · by_cases y : v1 = 1
      · exact br_t y K
      · exact br_f y (br_t h K)
  unfold wX_split_12
  refine xw_lfree (fun all => ?_) (fun g hg h0' hl => ?_)
  · refine br_t rfl (Y0 _ ?_)
    unfold wY_split_12
    refine yw_count ?_
    rw [cc_all (P := fun g => a_live g ≠ 0) all]
    exact br_f (by decide) ⟨rfl, c, nd, en, po, w0, h0, nd p, J0⟩
  · obtain ⟨c13, cnt7, notin⟩ := lv_free T g7 hg h0'
    obtain ⟨X, Y, W, H, mw, mh, N, GG⟩ := rl_nat G
    obtain ⟨n1, n2, n3, n4, n5, n6, n7, n8, n9, n10, n11, n12⟩ := N p hp
    obtain ⟨a1, a2, a3, a4, a5, a6, _⟩ := Pn (nd p) p8 j9
    obtain ⟨rm, rm0, rm1, rm2⟩ : ∃ rm, rm ≤ 24 ∧ (v1 = 1 → rm = W p) ∧ (v1 = 2 → rm = H p) := by
      rcases hv with h | h
      · exact ⟨W p, by omega, fun _ => rfl, fun y => (ge_12 h y).elim⟩
      · exact ⟨H p, by omega, fun y => (ge_12 y h).elim, fun _ => rfl⟩
    have YT : ∀ post : Int32 → SY → Prop, wY_split_49 post v1 (nI rm) (nI c) (nI w0) (nI h0) (nI (nd p)) f_resW f_resH a_kind a_val a_tk a_tv a_live a_wasLive a_rx a_ry a_rw a_rh a_oldW a_oldH a_cursorRow a_cursorCol a_regionTop a_regionBottom a_parserMode a_paramOne a_paramTwo a_paramIndex b_cells a_sx a_sy a_sw a_sh a_mw a_mh → wY_split_12 post v1 (nI c) (nI w0) (nI h0) (nI (nd p)) f_resW f_resH a_kind a_val a_tk a_tv a_live a_wasLive a_rx a_ry a_rw a_rh a_oldW a_oldH a_cursorRow a_cursorCol a_regionTop a_regionBottom a_parserMode a_paramOne a_paramTwo a_paramIndex b_cells a_sx a_sy a_sw a_sh a_mw a_mh := by
      intro post K
      unfold wY_split_12
      refine yw_count (br_t (nI_lt (b := 8) (by omega) (by omega)) ?_)
      by_cases y : v1 = 1
      · refine br_t y ⟨vi_8 p8, ?_⟩
        rw [c15p, a3, n5, ← rm1 y]
        exact K
      · refine br_f y ⟨vi_8 p8, ?_⟩
        have y2 : v1 = 2 := by rcases hv with h | h; exact absurd h y; exact h
        rw [c15p, a4, n6, ← rm2 y2]
        exact K
    refine br_f (tr_m1 (by omega)) ?_
    have X50 : wX_split_50 (fun r u' => wpY_split (fun r' v' => r' = r ∧ i_Rel (k + 4) u' v') (nI c, nI w0, nI h0, nI (nd p), f_resW, f_resH, a_kind, a_val, a_tk, a_tv, a_live, a_wasLive, a_rx, a_ry, a_rw, a_rh, a_oldW, a_oldH, a_cursorRow, a_cursorCol, a_regionTop, a_regionBottom, a_parserMode, a_paramOne, a_paramTwo, a_paramIndex, b_cells, a_sx, a_sy, a_sw, a_sh, a_mw, a_mh) v1) v1 (nI g) (nI rm) (nI w0) (nI h0) f_root (nI (nd p)) f_liveCount a_parent a_first a_second a_orientation a_share a_leastWidth a_leastHeight a_rectX a_rectY a_rectW a_rectH a_order a_live a_screenWidth a_screenHeight a_cursorRow a_cursorCol a_regionTop a_regionBottom a_parserMode a_paramOne a_paramTwo a_paramIndex a_cells := by
      refine pk_le 3 rm (fun r3 => ?_) (fun r3 => ?_)
      · refine xw_fnode T c13 (fun Nn N8 N15 hN' => xw_put T hp N15 (fun root' fi' se' S => ?_))
        have vN : vp_in (nI Nn) 15 := vi_15 N15
        have cN : (nI Nn).toNatClampNeg = Nn := cg_15 N15
        have vg : vp_in (nI g) 15 := vi_15 (by omega)
        have cg : (nI g).toNatClampNeg = g := cg_15 (by omega)
        have T' := sp_T T c13 hp kp hv ⟨N8, N15⟩ hN' hg notin S
        have V' := lv_split (N := Nn) g7 hp N8 hg h0'
        refine ⟨vN, nm_r (e' := upd a_orientation Nn v1) (by rw [cN]) ⟨vN, nm_r (e' := upd a_share Nn 50) (by rw [cN]) ⟨vN, nm_r (e' := upd fi' Nn (nI (nd p))) (by rw [cN]) ⟨vN, nm_r (e' := upd se' Nn (nI g)) (by rw [cN]) ⟨v15p, nm_r (e' := upd (upd a_parent Nn (a_parent (nd p))) (nd p) (nI Nn)) (by rw [c15p]) ⟨vg, nm_r (e' := upd (upd (upd a_parent Nn (a_parent (nd p))) (nd p) (nI Nn)) g (nI Nn)) (by rw [cg]) (xw_layOut T' (fun lw lh rx ry rw rh ord L' E' => ?_))⟩⟩⟩⟩⟩⟩
        obtain ⟨ma, mb, m1, m2, m3, m4⟩ := sp_min (nd' := sp_f p Nn (nd p) g nd) P T5 hp kp hv g2 g4 N GG (fun y => by rw [← rm1 y]; exact r3) (fun y => by rw [← rm2 y]; exact r3) (fun j _ => rfl) L'
        have G' : rl_G (c + 2) (sp_f p Nn (nd p) g nd) (sp_f p (p + 3) (p + 2) (p + 3) (fun j => sp_s p (en j))) (fun n => if n = Nn then p else if n = nd p then p + 1 else if n = g then p + 2 else sp_s p (po n)) w0 h0 root' (upd (upd (upd a_parent Nn (a_parent (nd p))) (nd p) (nI Nn)) g (nI Nn)) (upd fi' Nn (nI (nd p))) (upd se' Nn (nI g)) (upd a_orientation Nn v1) (upd a_share Nn 50) lw lh rx ry rw rh (sp_f p v1 0 0 a_kind) (sp_f p 50 (nI (nd p)) (nI g) a_val) (upd a_live g 1) :=
          ⟨T', L', E', g1, g2, g3, g4, rl_ex ⟨ma, m1, m3⟩ g2, rl_ex ⟨mb, m2, m4⟩ (by omega), V'⟩
        have lup : ∀ x, a_live x ≠ 0 → upd a_live g 1 x ≠ 0 := by
          intro x hx
          have : x ≠ g := fun e => hx (by rw [e]; exact h0')
          rw [pk_un this]; exact hx
        have F := rl_F (dv := a_live) G' (fun x hx hl => ⟨hl, lup x hl⟩) Pn
        refine xw_fits F (xw_start hg (Y0 _ (YT _ (br_t (nI_le (a := 3) r3 (by omega)) (yw_leaf T rfl hp kp (br_f (nI_pos (by omega)) (br_t ?_ (yw_89 hg h0' hl (nm_r (la_sub1 P.1) (yw_136 hp c13 (fun A V hA1 hA2 n => ?_)))))))))))
        · rw [show (2 : Int32) = nI 2 from rfl, nI_add]
          exact nI_le (b := 16) (by omega) (by omega)
        · have w0' : vp_in (nI p) 16 := vi_16 (by omega)
          have q0 : (nI p).toNatClampNeg = p := cg_16 (by omega)
          have e1 : nI p + 1 = nI (p + 1) := nI_1 p
          have e2 : nI p + 2 = nI (p + 2) := nI_add p 2
          have w1 : vp_in (nI p + 1) 16 := by rw [e1]; exact vi_16 (by omega)
          have q1 : (nI p + 1).toNatClampNeg = p + 1 := by rw [e1]; exact cg_16 (by omega)
          have w2 : vp_in (nI p + 2) 16 := by rw [e2]; exact vi_16 (by omega)
          have q2 : (nI p + 2).toNatClampNeg = p + 2 := by rw [e2]; exact cg_16 (by omega)
          have hk2 := sp_arr (c := c) (p := p) (k := a_kind) (k1 := A) (a := v1) (b := 0) (d := 0) (fun j hj => (hA1 j (by omega)).1) (fun j j1 j2 => (hA2 j j1 j2).1)
          have hv2 := sp_arr (c := c) (p := p) (k := a_val) (k1 := V) (a := 50) (b := nI (nd p)) (d := nI g) (fun j hj => (hA1 j (by omega)).2) (fun j j1 j2 => (hA2 j j1 j2).2)
          have G2 := rl_Gcg hk2 hv2 G'
          have Tn := G2.1
          refine br_t (nI_le (Nat.le_refl _) (by omega)) ⟨w0', nm_r (e' := upd A p v1) (by rw [q0]) ⟨w0', nm_r (e' := upd V p 50) (by rw [q0]) ⟨w1, nm_r (e' := upd (upd A p v1) (p + 1) 0) (by rw [q1]) ⟨w1, nm_r (e' := upd (upd V p 50) (p + 1) (nI (nd p))) (by rw [q1]) ⟨w2, nm_r (e' := upd (upd (upd A p v1) (p + 1) 0) (p + 2) 0) (by rw [q2]) ⟨w2, nm_r (e' := upd (upd (upd V p 50) (p + 1) (nI (nd p))) (p + 2) (nI g)) (by rw [q2]) (nm_r (nI_add c 2) (yw_save (fun x hx => (g7 x hx).1) (fun wl ow oh hs => ⟨vi_8 hg, nm_r (e' := upd a_live g 1) (by rw [cg, nr_b1]) ?_⟩)))⟩⟩⟩⟩⟩⟩
          refine yw_finish (dv := a_live) Tn.1 Tn.2.2.2.2.1 (by omega) rfl (rl_hnd Tn) (rl_ND Tn) G2.2.1 G2.2.2.1 (fun x hx => ?_) (fun x hx hl => rl_leaf G2 hx (lup x hl)) F (fun x hx hl => ?_) (fun rW rH yrx yry yrw yrh sx sy sw' sh' mw mh RE => yw_fresh hg ?_)
          · rw [(hs x hx).1]
            exact ⟨fun q => q.1, fun q => ⟨q, lup x q⟩⟩
          · obtain ⟨a1, a2, a3, a4, a5, a6, _⟩ := Pn x hx hl
            exact ⟨(hs x hx).2.1.trans (a3.trans a5.symm), (hs x hx).2.2.trans (a4.trans a6.symm)⟩
          · have lg : upd a_live g 1 g ≠ 0 := by rw [pk_us]; decide
            obtain ⟨qg, hqg, kqg, eqg⟩ := rl_leaf G2 hg lg
            have re := RE qg hqg kqg
            rw [eqg] at re
            rw [re.2.2.2]
            have cnt' := lv_c Tn G2.2.2.2.2.2.2.2.2.2
            refine ⟨rfl, c + 2, _, _, _, w0, h0, g, rfl, rfl, rfl, rfl, rfl, hg, rfl, rfl, lg, ?_, rfl, rfl, rfl, rfl, rfl, rfl, rfl, rfl, rfl, G2, ?_⟩
            · rw [j10, nI_1]
              exact congrArg nI (by omega)
            · intro x hx
              by_cases z : x = g
              · subst z
                intro _
                obtain ⟨sx1, sy1, nw, nh, s1, s2, s3, s4, s5, s6, s7, s8, _⟩ := rl_sz G2 hx lg
                refine ⟨re.1, re.2.1, re.2.2.1, re.2.2.2, pk_us, pk_us, nw, nh, s3, s4, s5, s6, s7, s8, ⟨0, 0, 0, nh - 1, 0, 0, 0, 0, pk_us, by omega, pk_us, by omega, pk_us, ?_, by omega, by omega, pk_us, by omega, pk_us, by omega, pk_us, by omega, pk_us, by omega⟩, fi_new⟩
                rw [pk_us, s4, la_sub1 s7]
              · intro hlx
                have hx0 : a_live x ≠ 0 := by rw [pk_un z] at hlx; exact hlx
                obtain ⟨qx, hqx, kqx, eqx⟩ := rl_leaf G2 hx hlx
                have rex := RE qx hqx kqx
                rw [eqx] at rex
                have base := rl_re (lv' := upd a_live g 1) hx hx0 hx0 (Pn x hx) F rex
                exact rl_cg base id ⟨pk_un z, pk_un z⟩ ⟨pk_un z, pk_un z, pk_un z, pk_un z, pk_un z, pk_un z, pk_un z, pk_un z⟩ (fun w h cr => ce_Oo (fi_newO (B := g * 288)) (fi_newO (B := g * 288)) (by omega) cr) hlx
      · exact Y0 _ (YT _ (br_f (nI_ge (b := 3) r3 (by omega)) ⟨rfl, c, nd, en, po, w0, h0, nd p, J0⟩))
    by_cases y : v1 = 1
    · refine br_t y ⟨v15p, ?_⟩
      rw [c15p, n5, ← rm1 y]
      exact X50
    · refine br_f y ⟨v15p, ?_⟩
      have y2 : v1 = 2 := by rcases hv with h | h; exact absurd h y; exact h
      rw [c15p, n6, ← rm2 y2]
      exact X50
end SQ
theorem i_vc_split {k : Nat} {u : SX} {v : SY} (I : i_Rel k u v) (hk : k + 4 ≤ 2050) (v1 : Int32) : wpX_split (fun r u' => wpY_split (fun r' v' => r' = r ∧ i_Rel (k + 4) u' v') v v1) u v1 := by
  obtain ⟨f_hostWidth, f_hostHeight, f_root, f_focusedPane, f_liveCount, a_parent, a_first, a_second, a_orientation, a_share, a_leastWidth, a_leastHeight, a_rectX, a_rectY, a_rectW, a_rectH, a_order, a_live, a_screenWidth, a_screenHeight, a_cursorRow, a_cursorCol, a_regionTop, a_regionBottom, a_parserMode, a_paramOne, a_paramTwo, a_paramIndex, a_cells⟩ := u
  obtain ⟨f_count, f_hostW, f_hostH, f_focus, f_resW, f_resH, a_kind, a_val, a_tk, a_tv, b_live, a_wasLive, a_rx, a_ry, a_rw, a_rh, a_oldW, a_oldH, a_row, a_col, a_top, a_bot, a_mode, a_p1, a_p2, a_k, b_cells, a_sx, a_sy, a_sw, a_sh, a_mw, a_mh⟩ := v
  obtain ⟨c, nd, en, po, w0, h0, f, J⟩ := I
  have J0 := J
  obtain ⟨rfl, rfl, rfl, rfl, rfl, j6, rfl, rfl, j9, j10, rfl, rfl, rfl, rfl, rfl, rfl, rfl, rfl, rfl, G, Pn⟩ := J
  by_cases h1 : v1 = 1
  · exact br_t h1 (sp_main J0 (Or.inl h1))
  · by_cases h2 : v1 = 2
    · exact br_f h1 (br_t h2 (sp_main J0 (Or.inr h2)))
    · exact br_f h1 (br_f h2 (br_f h1 (br_f h2 ⟨rfl, c, nd, en, po, w0, h0, f, J0⟩)))
