section CM
variable {a_kind a_val : Nat → Int32}
variable {f_hostWidth f_hostHeight f_root f_focusedPane f_liveCount : Int32} {a_parent a_first a_second a_orientation a_share a_leastWidth a_leastHeight a_rectX a_rectY a_rectW a_rectH a_order a_live a_screenWidth a_screenHeight a_cursorRow a_cursorCol a_regionTop a_regionBottom a_parserMode a_paramOne a_paramTwo a_paramIndex a_cells : Nat → Int32}
variable {k : Nat} {c : Nat} {nd en po : Nat → Nat} {w0 h0 : Nat}
theorem xw_fleaf2 {post : Int32 → Prop} {kd vl : Nat → Int32} {x y : Int32} {j d : Nat} (T : tr_T c nd en po f_root a_parent a_first a_second a_orientation a_share kd vl) (hx : x = nI (nd j)) (hy : y = nI (nd (j + d))) (h1 : j + d < c) (h2 : kd (j + d) = 0) (h3 : ∀ t, t < d → kd (j + t) ≠ 0) (K : post y) : wpX_firstLeaf post (f_hostWidth, f_hostHeight, f_root, f_focusedPane, f_liveCount, a_parent, a_first, a_second, a_orientation, a_share, a_leastWidth, a_leastHeight, a_rectX, a_rectY, a_rectW, a_rectH, a_order, a_live, a_screenWidth, a_screenHeight, a_cursorRow, a_cursorCol, a_regionTop, a_regionBottom, a_parserMode, a_paramOne, a_paramTwo, a_paramIndex, a_cells) x := by
  subst hx hy
  exact xw_fleaf T h1 h2 h3 K
theorem xw_45 {post : Int32 → St2 → Prop} {u p s d : Nat} {yx yy yw yh xc yc : Nat → Int32} (G : rl_G c nd en po w0 h0 f_root a_parent a_first a_second a_orientation a_share a_leastWidth a_leastHeight a_rectX a_rectY a_rectW a_rectH a_kind a_val a_live) (F : cl_F c a_kind en u p s) (p8 : nd p < 8)
    (Pn : ∀ g, g < 8 → rl_p a_live a_rectX a_rectY a_rectW a_rectH a_screenWidth a_screenHeight yx yy yw yh a_cursorRow a_cursorCol a_regionTop a_regionBottom a_parserMode a_paramOne a_paramTwo a_paramIndex xc yc g)
    (d1 : s + d < en s) (d2 : a_kind (s + d) = 0) (d3 : ∀ t, t < d → a_kind (s + t) ≠ 0)
    (K : ∀ (root' : Int32) (pa' fi' se' ori' lw lh rx ry rw rh ord : Nat → Int32), rl_G (c - 2) (fun j => nd (cl_r u p j)) (fun j => cl_d u p (en (cl_r u p j))) (fun n => cl_d u p (po n)) w0 h0 root' pa' fi' se' ori' a_share lw lh rx ry rw rh (fun j => a_kind (cl_r u p j)) (fun j => a_val (cl_r u p j)) (upd a_live (nd p) 0) →
      fi_F (upd a_live (nd p) 0) a_screenWidth a_screenHeight rw rh (fi_k a_screenWidth rw) (fi_k a_screenHeight rh) →
      post 1 (nI w0, nI h0, root', nI (nd (s + d)), f_liveCount - 1, pa', fi', se', ori', a_share, lw, lh, rx, ry, rw, rh, ord, upd a_live (nd p) 0, fi_A (upd a_live (nd p) 0) 8 rw a_screenWidth, fi_A (upd a_live (nd p) 0) 8 rh a_screenHeight, fi_A (upd a_live (nd p) 0) 8 (fi_r a_cursorRow rh) a_cursorRow, fi_A (upd a_live (nd p) 0) 8 (fi_r a_cursorCol rw) a_cursorCol, fi_A (upd a_live (nd p) 0) 8 (fi_t a_regionTop a_regionBottom rh) a_regionTop, fi_A (upd a_live (nd p) 0) 8 (fi_b a_regionBottom rh) a_regionBottom, a_parserMode, a_paramOne, a_paramTwo, a_paramIndex, ce_w (fi_S (upd a_live (nd p) 0) (fi_k a_screenWidth rw) (fi_k a_screenHeight rh) 8) a_cells)) :
    wX_close_45 post (nI (nd u)) (nI (nd s)) (nI w0) (nI h0) f_root (nI (nd p)) f_liveCount a_parent a_first a_second a_orientation a_share a_leastWidth a_leastHeight a_rectX a_rectY a_rectW a_rectH a_order a_live a_screenWidth a_screenHeight a_cursorRow a_cursorCol a_regionTop a_regionBottom a_parserMode a_paramOne a_paramTwo a_paramIndex a_cells := by
  obtain ⟨T, L, E, g1, g2, g3, g4, g5, g6, g7⟩ := id G
  obtain ⟨P, T2, T3, T4, T5, T6, T7⟩ := id T
  obtain ⟨_, f1, f2, f3, f4, f5, f6, f7, f8, f9, f10⟩ := id F
  obtain ⟨r1, r2, r3, r4, r5, r6⟩ := cl_seg F
  have s15 := (T6 s f5).1
  have u15 := (T6 u f1).1
  have vu : vp_in (nI (nd u)) 15 := vi_15 u15
  have cu : (nI (nd u)).toNatClampNeg = nd u := cg_15 u15
  have c8p : (nI (nd p)).toNatClampNeg = nd p := cg_8 p8
  have rt : ∀ t, t ≤ d → cl_r u p (u + t) = s + t := by
    intro t ht
    have := r2 (s + t) (by omega) (by omega)
    rw [show u + (s + t - s) = u + t by omega] at this
    exact this
  unfold wX_close_45
  refine xw_put T f1 s15 (fun root' fi' se' S => ?_)
  obtain ⟨S1, S2, S3, S4⟩ := S
  have T' := tr_close T F (kd' := fun j => a_kind (cl_r u p j)) (vl' := fun j => a_val (cl_r u p j)) (root' := root') (pa' := upd a_parent (nd s) (a_parent (nd u))) (fi' := fi') (se' := se') (ori' := upd a_orientation (nd u) 0) (fun j _ => rfl) (fun j _ => rfl) S1 (fun j hj _ hkj => S2 j hj hkj) (fun j hj _ hkj => S3 j hj hkj) (fun j hj hjs => pk_un (fun e => hjs (tr_inj T hj f5 e))) pk_us (fun n hn => pk_un hn) pk_us
  have V' := lv_close T F g7 p8
  refine ⟨vu, nm_r (e' := upd a_orientation (nd u) 0) (by rw [cu]) ⟨vi_8 p8, nm_r (e' := upd a_live (nd p) 0) (by rw [c8p]) (nm_e (xw_fleaf2 (y := nI (nd (s + d))) (j := u) (d := d) T' ?_ ?_ (by omega) ?_ (fun t ht => ?_) (xw_layOut T' (fun lw lh rx ry rw rh ord L' E' => ?_))))⟩⟩
  · show nI (nd s) = nI (nd (cl_r u p u))
    rw [cl_r0 F]
  · show nI (nd (s + d)) = nI (nd (cl_r u p (u + d)))
    rw [rt d (Nat.le_refl _)]
  · show a_kind (cl_r u p (u + d)) = 0
    rw [rt d (Nat.le_refl _)]
    exact d2
  · show a_kind (cl_r u p (u + t)) ≠ 0
    rw [rt t (by omega)]
    exact d3 t ht
  · obtain ⟨X, Y, W, H, mw, mh, N, GG⟩ := rl_nat G
    obtain ⟨ma, mb, m1, m2, m3, m4⟩ := cl_min (nd' := fun j => nd (cl_r u p j)) F T5 g2 g4 L N (fun j _ => rfl) L'
    have G' : rl_G (c - 2) (fun j => nd (cl_r u p j)) (fun j => cl_d u p (en (cl_r u p j))) (fun n => cl_d u p (po n)) w0 h0 root' (upd a_parent (nd s) (a_parent (nd u))) fi' se' (upd a_orientation (nd u) 0) a_share lw lh rx ry rw rh (fun j => a_kind (cl_r u p j)) (fun j => a_val (cl_r u p j)) (upd a_live (nd p) 0) :=
      ⟨T', L', E', g1, g2, g3, g4, rl_ex ⟨ma, m1, m3⟩ g2, rl_ex ⟨mb, m2, m4⟩ (by omega), V'⟩
    have dn : ∀ x, upd a_live (nd p) 0 x ≠ 0 → a_live x ≠ 0 := by
      intro x hx
      by_cases z : x = nd p
      · rw [z, pk_us] at hx; exact absurd rfl hx
      · rw [pk_un z] at hx; exact hx
    have Fi := rl_F (dv := upd a_live (nd p) 0) G' (fun x hx hl => ⟨dn x hl, hl⟩) Pn
    exact xw_fits Fi (K root' _ fi' se' _ lw lh rx ry rw rh ord G' Fi)
end CM
