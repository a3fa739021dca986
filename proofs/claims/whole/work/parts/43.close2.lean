section CM
variable {f_hostWidth f_hostHeight f_root f_focusedPane f_liveCount : Int32} {a_parent a_first a_second a_orientation a_share a_leastWidth a_leastHeight a_rectX a_rectY a_rectW a_rectH a_order a_live a_screenWidth a_screenHeight a_cursorRow a_cursorCol a_regionTop a_regionBottom a_parserMode a_paramOne a_paramTwo a_paramIndex a_cells : Nat → Int32} {f_count f_hostW f_hostH f_focus f_resW f_resH : Int32} {a_kind a_val a_tk a_tv b_live a_wasLive a_rx a_ry a_rw a_rh a_oldW a_oldH a_row a_col a_top a_bot a_mode a_p1 a_p2 a_k b_cells a_sx a_sy a_sw a_sh a_mw a_mh : Nat → Int32}
variable {k : Nat} {c : Nat} {nd en po : Nat → Nat} {w0 h0 : Nat}
theorem xw_fleaf2 {post : Int32 → Prop} {kd vl : Nat → Int32} {x y : Int32} {j d : Nat} (T : tr_T c nd en po f_root a_parent a_first a_second a_orientation a_share kd vl) (hx : x = nI (nd j)) (hy : y = nI (nd (j + d))) (h1 : j + d < c) (h2 : kd (j + d) = 0) (h3 : ∀ t, t < d → kd (j + t) ≠ 0) (K : post y) : wpX_firstLeaf post (f_hostWidth, f_hostHeight, f_root, f_focusedPane, f_liveCount, a_parent, a_first, a_second, a_orientation, a_share, a_leastWidth, a_leastHeight, a_rectX, a_rectY, a_rectW, a_rectH, a_order, a_live, a_screenWidth, a_screenHeight, a_cursorRow, a_cursorCol, a_regionTop, a_regionBottom, a_parserMode, a_paramOne, a_paramTwo, a_paramIndex, a_cells) x := by
  subst hx hy
  exact xw_fleaf T h1 h2 h3 K
theorem xw_45 {post : Int32 → SX → Prop} {u p s d : Nat} {yx yy yw yh xc yc : Nat → Int32} (G : rl_G c nd en po w0 h0 f_root a_parent a_first a_second a_orientation a_share a_leastWidth a_leastHeight a_rectX a_rectY a_rectW a_rectH a_kind a_val a_live) (F : cl_F c a_kind en u p s) (p8 : nd p < 8)
    (Pn : ∀ g, g < 8 → rl_p a_live a_rectX a_rectY a_rectW a_rectH a_screenWidth a_screenHeight yx yy yw yh a_cursorRow a_cursorCol a_regionTop a_regionBottom a_parserMode a_paramOne a_paramTwo a_paramIndex xc yc g)
    (d1 : s + d < en s) (d2 : a_kind (s + d) = 0) (d3 : ∀ t, t < d → a_kind (s + t) ≠ 0)
    (K : ∀ (root' : Int32) (pa' fi' se' ori' lw lh rx ry rw rh ord : Nat → Int32), rl_G (c - 2) (fun j => nd (cl_r u p j)) (fun j => cl_d u p (en (cl_r u p j))) (fun n => cl_d u p (po n)) w0 h0 root' pa' fi' se' ori' a_share lw lh rx ry rw rh (fun j => a_kind (cl_r u p j)) (fun j => a_val (cl_r u p j)) (upd a_live (nd p) 0) →
      fi_F (upd a_live (nd p) 0) a_screenWidth a_screenHeight rw rh (fi_k a_screenWidth rw) (fi_k a_screenHeight rh) →
      post 1 (nI w0, nI h0, root', nI (nd (s + d)), f_liveCount - 1, pa', fi', se', ori', a_share, lw, lh, rx, ry, rw, rh, ord, upd a_live (nd p) 0, fi_A (upd a_live (nd p) 0) 8 rw a_screenWidth, fi_A (upd a_live (nd p) 0) 8 rh a_screenHeight, fi_A (upd a_live (nd p) 0) 8 (fi_r a_cursorRow rh) a_cursorRow, fi_A (upd a_live (nd p) 0) 8 (fi_r a_cursorCol rw) a_cursorCol, fi_A (upd a_live (nd p) 0) 8 (fi_t a_regionTop a_regionBottom rh) a_regionTop, fi_A (upd a_live (nd p) 0) 8 (fi_b a_regionBottom rh) a_regionBottom, a_parserMode, a_paramOne, a_paramTwo, a_paramIndex, ce_w (fi_S (upd a_live (nd p) 0) (fi_k a_screenWidth rw) (fi_k a_screenHeight rh) 8) a_cells)) :
    wX_close_45 post (nI (nd u)) (nI (nd s)) (nI w0) (nI h0) f_root (nI (nd p)) f_liveCount a_parent a_first a_second a_orientation a_share a_leastWidth a_leastHeight a_rectX a_rectY a_rectW a_rectH a_order a_live a_screenWidth a_screenHeight a_cursorRow a_cursorCol a_regionTop a_regionBottom a_parserMode a_paramOne a_paramTwo a_paramIndex a_cells := by
  obtain ⟨T, L, E, g1, g2, g3, g4, g5, g6, g7⟩ := id G
  obtain ⟨P, T2, T3, T4, T5, T6, T7⟩ := id T
  obtain ⟨_, f1, f2, f3, f4, f5, f6, f7, f8, f9, f10⟩ := id F
  obtain ⟨r1, r2, r3, r4, r5, r6⟩ := cl_seg F
  have s15 := (T6 s f5).1
  have u15 := (T6 u f1).1
  have vu : vp_in (nI (nd u)) 15 := vi_15 u15
  have cu : (nI (nd u)).toNatClampNeg = nd u := cg_15 u15
  have c8p : (nI (nd p)).toNatClampNeg = nd p := cg_8 p8
  have rt : ∀ t, t ≤ d → cl_r u p (u + t) = s + t := by
    intro t ht
    have := r2 (s + t) (by omega) (by omega)
    rw [show u + (s + t - s) = u + t by omega] at this
    exact this
  unfold wX_close_45
  refine xw_put T f1 s15 (fun root' fi' se' S => ?_)
  obtain ⟨S1, S2, S3, S4⟩ := S
  have T' := tr_close T F (kd' := fun j => a_kind (cl_r u p j)) (vl' := fun j => a_val (cl_r u p j)) (root' := root') (pa' := upd a_parent (nd s) (a_parent (nd u))) (fi' := fi') (se' := se') (ori' := upd a_orientation (nd u) 0) (fun j _ => rfl) (fun j _ => rfl) S1 (fun j hj _ hkj => S2 j hj hkj) (fun j hj _ hkj => S3 j hj hkj) (fun j hj hjs => pk_un (fun e => hjs (tr_inj T hj f5 e))) pk_us (fun n hn => pk_un hn) pk_us
  have V' := lv_close T F g7 p8
  refine ⟨vu, nm_r (e' := upd a_orientation (nd u) 0) (by rw [cu]) ⟨vi_8 p8, nm_r (e' := upd a_live (nd p) 0) (by rw [c8p, nr_b0]) (nm_e (xw_fleaf2 (y := nI (nd (s + d))) (j := u) (d := d) T' ?_ ?_ (by omega) ?_ (fun t ht => ?_) (xw_layOut T' (fun lw lh rx ry rw rh ord L' E' => ?_))))⟩⟩
  · show nI (nd s) = nI (nd (cl_r u p u))
    rw [cl_r0 F]
  · show nI (nd (s + d)) = nI (nd (cl_r u p (u + d)))
    rw [rt d (Nat.le_refl _)]
  · show a_kind (cl_r u p (u + d)) = 0
    rw [rt d (Nat.le_refl _)]
    exact d2
  · show a_kind (cl_r u p (u + t)) ≠ 0
    rw [rt t (by omega)]
    exact d3 t ht
  · obtain ⟨X, Y, W, H, mw, mh, N, GG⟩ := rl_nat G
    obtain ⟨ma, mb, m1, m2, m3, m4⟩ := cl_min (nd' := fun j => nd (cl_r u p j)) F T5 g2 g4 L N (fun j _ => rfl) L'
    have G' : rl_G (c - 2) (fun j => nd (cl_r u p j)) (fun j => cl_d u p (en (cl_r u p j))) (fun n => cl_d u p (po n)) w0 h0 root' (upd a_parent (nd s) (a_parent (nd u))) fi' se' (upd a_orientation (nd u) 0) a_share lw lh rx ry rw rh (fun j => a_kind (cl_r u p j)) (fun j => a_val (cl_r u p j)) (upd a_live (nd p) 0) :=
      ⟨T', L', E', g1, g2, g3, g4, rl_ex ⟨ma, m1, m3⟩ g2, rl_ex ⟨mb, m2, m4⟩ (by omega), V'⟩
    have dn : ∀ x, upd a_live (nd p) 0 x ≠ 0 → a_live x ≠ 0 := by
      intro x hx
      by_cases z : x = nd p
      · rw [z, pk_us] at hx; exact absurd rfl hx
      · rw [pk_un z] at hx; exact hx
    have Fi := rl_F (dv := upd a_live (nd p) 0) G' (fun x hx hl => ⟨dn x hl, hl⟩) Pn
    exact xw_fits Fi (K root' _ fi' se' _ lw lh rx ry rw rh ord G' Fi)
theorem yw_closeK {post : Int32 → SY → Prop} {u p s d : Nat} {root root' : Int32} {pa fi se ori sr pa' fi' se' ori' lw0 lh0 rx0 ry0 rw0 rh0 lw lh rx ry rw rh sw sh : Nat → Int32} {kw kh : Nat → Nat} (G : rl_G c nd en po w0 h0 root pa fi se ori sr lw0 lh0 rx0 ry0 rw0 rh0 a_kind a_val b_live) (F : cl_F c a_kind en u p s) (ch : ps_ch a_kind en c u p) (p8 : nd p < 8)
    (d1 : s + d < en s) (d2 : a_kind (s + d) = 0) (d3 : ∀ t, t < d → a_kind (s + t) ≠ 0)
    (G' : rl_G (c - 2) (fun j => nd (cl_r u p j)) (fun j => cl_d u p (en (cl_r u p j))) (fun n => cl_d u p (po n)) w0 h0 root' pa' fi' se' ori' sr lw lh rx ry rw rh (fun j => a_kind (cl_r u p j)) (fun j => a_val (cl_r u p j)) (upd b_live (nd p) 0)) (Fi : fi_F (upd b_live (nd p) 0) sw sh rw rh kw kh) (old : ∀ x, x < 8 → upd b_live (nd p) 0 x ≠ 0 → a_rw x = sw x ∧ a_rh x = sh x)
    (K : ∀ (rW rH : Int32) (A V TK TV wl ow oh yrx yry yrw yrh sx sy sw' sh' mw mh : Nat → Int32), (∀ j, j < c - 2 → A j = a_kind (cl_r u p j)) → (∀ j, j < c - 2 → V j = a_val (cl_r u p j)) → (∀ q, q < c - 2 → A q = 0 → yrx (nd (cl_r u p q)) = rx (nd (cl_r u p q)) ∧ yry (nd (cl_r u p q)) = ry (nd (cl_r u p q)) ∧ yrw (nd (cl_r u p q)) = rw (nd (cl_r u p q)) ∧ yrh (nd (cl_r u p q)) = rh (nd (cl_r u p q))) →
      post 1 (nI (c - 2), nI w0, nI h0, nI (nd (s + d)), rW, rH, A, V, TK, TV, upd b_live (nd p) 0, wl, yrx, yry, yrw, yrh, ow, oh, fi_A (upd b_live (nd p) 0) 8 (fi_r a_row rh) a_row, fi_A (upd b_live (nd p) 0) 8 (fi_r a_col rw) a_col, fi_A (upd b_live (nd p) 0) 8 (fi_t a_top a_bot rh) a_top, fi_A (upd b_live (nd p) 0) 8 (fi_b a_bot rh) a_bot, a_mode, a_p1, a_p2, a_k, ce_w (fi_S (upd b_live (nd p) 0) kw kh 8) b_cells, sx, sy, sw', sh', mw, mh)) :
    wpY_close post (nI c, nI w0, nI h0, nI (nd p), f_resW, f_resH, a_kind, a_val, a_tk, a_tv, b_live, a_wasLive, a_rx, a_ry, a_rw, a_rh, a_oldW, a_oldH, a_row, a_col, a_top, a_bot, a_mode, a_p1, a_p2, a_k, b_cells, a_sx, a_sy, a_sw, a_sh, a_mw, a_mh) := by
  obtain ⟨T, L, E, g1, g2, g3, g4, g5, g6, g7⟩ := id G
  obtain ⟨P, T2, T3, T4, T5, T6, T7⟩ := id T
  obtain ⟨_, f1, f2, f3, f4, f5, f6, f7, f8, f9, f10⟩ := id F
  obtain ⟨r1, r2, r3, r4, r5, r6⟩ := cl_seg F
  have cnt := lv_c T g7
  obtain ⟨n8, nv⟩ := (T6 (s + d) (by omega)).2.2.2.1 d2
  have c8p : (nI (nd p)).toNatClampNeg = nd p := cg_8 p8
  unfold wpY_close
  refine yw_count (br_t (nI_lt (a := 1) (by omega) (by omega)) (yw_leaf T rfl f4 f3 (yw_23 F ch T2 rfl (yw_119 F T2 rfl d1 d2 d3 nv (by omega) (fun A V TK TV hAV n => br_t (nI_le (Nat.le_refl _) (by omega)) (yw_save (fun x hx => (g7 x hx).1) (fun wl ow oh hs => ⟨vi_8 p8, nm_r (e' := upd b_live (nd p) 0) (by rw [c8p, nr_b0]) ?_⟩)))))))
  have G2 := rl_Gcg (fun j hj => (hAV j hj).1) (fun j hj => (hAV j hj).2) G'
  have Tn := G2.1
  refine yw_finish (dv := upd b_live (nd p) 0) Tn.1 Tn.2.2.2.2.1 (by omega) rfl (rl_hnd Tn) (rl_ND Tn) G2.2.1 G2.2.2.1 (fun x hx => ?_) (fun x hx hl => rl_leaf G2 hx hl) Fi (fun x hx hl => ?_) (fun rW rH yrx yry yrw yrh sx sy sw' sh' mw mh RE => K rW rH A V TK TV wl ow oh yrx yry yrw yrh sx sy sw' sh' mw mh (fun j hj => (hAV j hj).1) (fun j hj => (hAV j hj).2) RE)
  · rw [(hs x hx).1]
    refine ⟨fun q => q.2, fun q => ⟨?_, q⟩⟩
    by_cases z : x = nd p
    · rw [z, pk_us] at q; exact absurd rfl q
    · rw [pk_un z] at q; exact q
  · exact ⟨(hs x hx).2.1.trans (old x hx hl).1, (hs x hx).2.2.trans (old x hx hl).2⟩
end CM
theorem i_vc_close {k : Nat} {u : SX} {v : SY} (I : i_Rel k u v) (hk : k + 4 ≤ 2050) : wpX_close (fun r u' => wpY_close (fun r' v' => r' = r ∧ i_Rel (k + 4) u' v') v) u := by
  obtain ⟨f_hostWidth, f_hostHeight, f_root, f_focusedPane, f_liveCount, a_parent, a_first, a_second, a_orientation, a_share, a_leastWidth, a_leastHeight, a_rectX, a_rectY, a_rectW, a_rectH, a_order, a_live, a_screenWidth, a_screenHeight, a_cursorRow, a_cursorCol, a_regionTop, a_regionBottom, a_parserMode, a_paramOne, a_paramTwo, a_paramIndex, a_cells⟩ := u
  obtain ⟨f_count, f_hostW, f_hostH, f_focus, f_resW, f_resH, a_kind, a_val, a_tk, a_tv, b_live, a_wasLive, a_rx, a_ry, a_rw, a_rh, a_oldW, a_oldH, a_row, a_col, a_top, a_bot, a_mode, a_p1, a_p2, a_k, b_cells, a_sx, a_sy, a_sw, a_sh, a_mw, a_mh⟩ := v
  obtain ⟨c, nd, en, po, w0, h0, f, J⟩ := I
  have J0 := J
  obtain ⟨rfl, rfl, rfl, rfl, rfl, j6, rfl, rfl, j9, j10, rfl, rfl, rfl, rfl, rfl, rfl, rfl, rfl, rfl, G, Pn⟩ := J
  obtain ⟨T, L, E, g1, g2, g3, g4, g5, g6, g7⟩ := id G
  obtain ⟨P, T2, T3, T4, T5, T6, T7⟩ := id T
  obtain ⟨p, hp, kp, ep⟩ := rl_leaf G j6 j9
  subst ep
  have p8 := j6
  have v15p : vp_in (nI (nd p)) 15 := vi_15 (by omega)
  have c15p : (nI (nd p)).toNatClampNeg = nd p := cg_15 (by omega)
  have cnt := lv_c T g7
  refine ⟨v15p, ?_⟩
  rw [c15p]
  refine nm_e ?_
  rcases pu_w T hp with ⟨p0, e⟩ | ⟨u, hu, hku, up, e, u15, h⟩
  · have c1 : c = 1 := by
      have := ps_lf P hp kp
      rw [p0, P.2.1] at this
      omega
    refine br_t e ?_
    unfold wpY_close
    refine yw_count ?_
    exact br_f (nI_nlt (a := 1) (by omega) (by omega)) ⟨rfl, c, nd, en, po, w0, h0, nd p, J0⟩
  · have ch : ps_ch a_kind en c u p := ⟨hu, hku, by rcases h with h | h; exact Or.inl h.1; exact Or.inr h.1⟩
    have F := cl_mk (s := if p = u + 1 then u + 2 else u + 1) P kp ch rfl
    generalize hs : (if p = u + 1 then u + 2 else u + 1) = s at F
    obtain ⟨_, f1, f2, f3, f4, f5, f6, f7, f8, f9, f10⟩ := id F
    obtain ⟨d, d1, d2, d3⟩ := ps_fl P s f5
    have ses := (P.2.2 s f5).2.1
    have vu : vp_in (nI (nd u)) 15 := vi_15 u15
    have cu : (nI (nd u)).toNatClampNeg = nd u := cg_15 u15
    obtain ⟨a1, a2, a3, a4, a5, a6⟩ := ps_nd P hu hku
    obtain ⟨w1, w2, w3, w4, w5, w6⟩ := (T6 u hu).2.2.2.2 hku
    rw [e]
    refine br_f (tr_m1 (by omega)) ⟨vu, ?_⟩
    rw [cu]
    have n8 := ((T6 (s + d) (by omega)).2.2.2.1 d2).1
    have KX : ∀ z, z = nI (nd s) → wX_close_45 (fun r u' => wpY_close (fun r' v' => r' = r ∧ i_Rel (k + 4) u' v') (nI c, nI w0, nI h0, nI (nd p), f_resW, f_resH, a_kind, a_val, a_tk, a_tv, a_live, a_wasLive, a_rx, a_ry, a_rw, a_rh, a_oldW, a_oldH, a_cursorRow, a_cursorCol, a_regionTop, a_regionBottom, a_parserMode, a_paramOne, a_paramTwo, a_paramIndex, b_cells, a_sx, a_sy, a_sw, a_sh, a_mw, a_mh)) (nI (nd u)) z (nI w0) (nI h0) f_root (nI (nd p)) f_liveCount a_parent a_first a_second a_orientation a_share a_leastWidth a_leastHeight a_rectX a_rectY a_rectW a_rectH a_order a_live a_screenWidth a_screenHeight a_cursorRow a_cursorCol a_regionTop a_regionBottom a_parserMode a_paramOne a_paramTwo a_paramIndex a_cells := by
      intro z hz
      subst hz
      refine xw_45 G F p8 Pn d1 d2 d3 (fun root' pa' fi' se' ori' lw lh rx ry rw rh ord G' Fi => ?_)
      have dn : ∀ x, upd a_live (nd p) 0 x ≠ 0 → a_live x ≠ 0 := by
        intro x hx
        by_cases z : x = nd p
        · rw [z, pk_us] at hx; exact absurd rfl hx
        · rw [pk_un z] at hx; exact hx
      refine yw_closeK G F ch p8 d1 d2 d3 G' Fi (fun x hx hl => ?_) (fun rW rH A V TK TV wl ow oh yrx yry yrw yrh sx sy sw' sh' mw mh hA hV RE => ?_)
      · obtain ⟨b1, b2, b3, b4, b5, b6, _⟩ := Pn x hx (dn x hl)
        exact ⟨b3.trans b5.symm, b4.trans b6.symm⟩
      · have G2 := rl_Gcg hA hV G'
        have cnt' := lv_c G2.1 G2.2.2.2.2.2.2.2.2.2
        have sp : nd (s + d) ≠ nd p := fun y => by
          have := tr_inj T (by omega) hp y
          rcases f7 with ⟨q1, q2, q3, q4, q5⟩ | ⟨q1, q2, q3, q4⟩
          · omega
          · have es : en s = p := by rw [q2]; exact q1.symm
            omega
        refine ⟨rfl, c - 2, _, _, _, w0, h0, nd (s + d), rfl, rfl, rfl, rfl, rfl, n8, rfl, rfl, ?_, ?_, rfl, rfl, rfl, rfl, rfl, rfl, rfl, rfl, rfl, G2, rl_fin G2 (fun x hx hl => dn x hl) Pn Fi RE⟩
        · rw [pk_un sp]
          exact (g7 _ n8).2.mpr ⟨s + d, by omega, rfl⟩
        · rw [j10, la_sub1 (by omega)]
          exact congrArg nI (by omega)
    by_cases z : p = u + 1
    · have ef : a_first (nd u) = nI (nd p) := by rw [w3, z]
      refine br_t ef ⟨vu, KX _ ?_⟩
      rw [w4]
      have : en (u + 1) = s := by
        rw [if_pos z] at hs
        rw [← z, ps_lf P hp kp]
        omega
      rw [this]
    · have hq : p = en (u + 1) := by rcases h with h | h; exact absurd h.1 z; exact h.1
      refine br_f (fun y => ?_) ⟨vu, KX _ ?_⟩
      · rw [w3] at y
        have b1 := (T6 _ a5).1
        have := tr_inj T a5 hp ((nI_eq (by omega) (by omega)).mp y)
        omega
      · rw [if_neg z] at hs
        rw [w3, hs]
