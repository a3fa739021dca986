/-- the panes, seen from the other object -/
theorem pr_sym {lv xx xy xw xh sw sh yx yy yw yh R C T B M P1 P2 K xc yc bsw bsh : Nat → Int32} {g : Nat} (h : rl_p lv xx xy xw xh sw sh yx yy yw yh R C T B M P1 P2 K xc yc g) (Sb : lv g ≠ 0 → bsw g = sw g ∧ bsh g = sh g) : rl_p lv yx yy yw yh bsw bsh xx xy xw xh R C T B M P1 P2 K yc xc g := by
  intro hl
  obtain ⟨a1, a2, a3, a4, a5, a6, w, hh, b1, b2, b3, b4, b5, b6, q, cr⟩ := h hl
  obtain ⟨s1, s2⟩ := Sb hl
  refine ⟨a1.symm, a2.symm, a3.symm, a4.symm, s1.trans (a5.trans a3.symm), s2.trans (a6.trans a4.symm), w, hh, a3.trans b1, a4.trans b2, b3, b4, b5, b6, q, ?_⟩
  intro j j1 j2
  obtain ⟨e, n, z⟩ := cr j j1 j2
  rw [← e]
  exact ⟨rfl, n, z⟩
theorem pr_eqs {c : Nat} {nd nb en po pb : Nat → Nat} {w0 h0 : Nat} {root root' : Int32} {pa fi se ori sr lw lh rx ry rw rh kd vl lv lv' dv pa' fi' se' ori' sr' lw' lh' rx' ry' rw' rh' sw sh R C T B bsw bsh : Nat → Int32}
    (Ga : rl_G c nd en po w0 h0 root pa fi se ori sr lw lh rx ry rw rh kd vl lv') (Gb : rl_G c nb en pb w0 h0 root' pa' fi' se' ori' sr' lw' lh' rx' ry' rw' rh' kd vl lv') (hd : ∀ g, g < 8 → dv g ≠ 0 → lv g ≠ 0 ∧ lv' g ≠ 0) (Sb : ∀ g, g < 8 → lv g ≠ 0 → bsw g = sw g ∧ bsh g = sh g) :
    fi_A dv 8 (fi_r R rh') R = fi_A dv 8 (fi_r R rh) R ∧ fi_A dv 8 (fi_r C rw') C = fi_A dv 8 (fi_r C rw) C ∧ fi_A dv 8 (fi_t T B rh') T = fi_A dv 8 (fi_t T B rh) T ∧ fi_A dv 8 (fi_b B rh') B = fi_A dv 8 (fi_b B rh) B ∧
    (∀ a, ce_w (fi_S dv (fi_k bsw rw') (fi_k bsh rh') 8) a = ce_w (fi_S dv (fi_k sw rw) (fi_k sh rh) 8) a) ∧
    (∀ g, g < 8 → dv g ≠ 0 → fi_A dv 8 rw' bsw g = fi_A dv 8 rw sw g ∧ fi_A dv 8 rh' bsh g = fi_A dv 8 rh sh g) := by
  have eq : ∀ g, g < 8 → dv g ≠ 0 → rx' g = rx g ∧ ry' g = ry g ∧ rw' g = rw g ∧ rh' g = rh g := fun g hg hz => pr_live Ga Gb g hg (hd g hg hz).2
  refine ⟨?_, ?_, ?_, ?_, fun a => fi_Sc (fun g hg hz => ?_), fun g hg hz => ?_⟩
  · exact fi_Ae (fun g hg hz => by unfold fi_r; rw [(eq g hg hz).2.2.2])
  · exact fi_Ae (fun g hg hz => by unfold fi_r; rw [(eq g hg hz).2.2.1])
  · exact fi_Ae (fun g hg hz => by unfold fi_t; rw [(eq g hg hz).2.2.2])
  · exact fi_Ae (fun g hg hz => by unfold fi_b; rw [(eq g hg hz).2.2.2])
  · unfold fi_k
    rw [(eq g hg hz).2.2.1, (eq g hg hz).2.2.2, (Sb g hg (hd g hg hz).1).1, (Sb g hg (hd g hg hz).1).2]
    exact ⟨rfl, rfl⟩
  · rw [fi_An hg hz, fi_An hg hz, fi_An hg hz, fi_An hg hz]
    exact ⟨(eq g hg hz).2.2.1, (eq g hg hz).2.2.2⟩
theorem pr_split {u v : St2} {A : Int32 → St2 → Prop} (v1 : Int32) (R : pr_R u v) (K : ∀ r u', (∀ B : Int32 → St2 → Prop, (∀ r' v', pr_R u' v' → B r' v') → wpX_split B v v1) → A r u') : wpX_split A u v1 := by
  obtain ⟨f_hostWidth, f_hostHeight, f_root, f_focusedPane, f_liveCount, a_parent, a_first, a_second, a_orientation, a_share, a_leastWidth, a_leastHeight, a_rectX, a_rectY, a_rectW, a_rectH, a_order, a_live, a_screenWidth, a_screenHeight, a_cursorRow, a_cursorCol, a_regionTop, a_regionBottom, a_parserMode, a_paramOne, a_paramTwo, a_paramIndex, a_cells⟩ := u
  obtain ⟨f_bhostWidth, f_bhostHeight, f_broot, f_bfocusedPane, f_bliveCount, a_bparent, a_bfirst, a_bsecond, a_borientation, a_bshare, a_bleastWidth, a_bleastHeight, a_brectX, a_brectY, a_brectW, a_brectH, a_border, a_blive, a_bscreenWidth, a_bscreenHeight, a_bcursorRow, a_bcursorCol, a_bregionTop, a_bregionBottom, a_bparserMode, a_bparamOne, a_bparamTwo, a_bparamIndex, a_bcells⟩ := v
  obtain ⟨c, kd, vl, nd, nb, en, po, pb, w0, h0, f, J⟩ := R
  have J0 := J
  obtain ⟨rfl, rfl, rfl, rfl, j5, rfl, rfl, j8, j9, rfl, rfl, rfl, rfl, rfl, rfl, rfl, rfl, rfl, rfl, Ga, Gb, Pn, Sb⟩ := J
  have R0 : pr_R (nI w0, nI h0, f_root, nI f, f_liveCount, a_parent, a_first, a_second, a_orientation, a_share, a_leastWidth, a_leastHeight, a_rectX, a_rectY, a_rectW, a_rectH, a_order, a_live, a_screenWidth, a_screenHeight, a_cursorRow, a_cursorCol, a_regionTop, a_regionBottom, a_parserMode, a_paramOne, a_paramTwo, a_paramIndex, a_cells) (nI w0, nI h0, f_broot, nI f, f_liveCount, a_bparent, a_bfirst, a_bsecond, a_borientation, a_bshare, a_bleastWidth, a_bleastHeight, a_brectX, a_brectY, a_brectW, a_brectH, a_border, a_live, a_bscreenWidth, a_bscreenHeight, a_cursorRow, a_cursorCol, a_regionTop, a_regionBottom, a_parserMode, a_paramOne, a_paramTwo, a_paramIndex, a_bcells) := ⟨c, kd, vl, nd, nb, en, po, pb, w0, h0, f, J0⟩
  obtain ⟨p, hp, kp, ep⟩ := rl_leaf Ga j5 j8
  have lf := (pr_un Ga Gb).2
  have epb : nb p = f := (lf p hp kp).trans ep
  have lvE := pr_live Ga Gb f j5 j8
  have cnt := lv_c Ga.1 Ga.2.2.2.2.2.2.2.2.2
  have no : ((v1 ≠ 1 ∧ v1 ≠ 2) ∨ (∀ g, g < 8 → a_live g ≠ 0) ∨ ((v1 = 1 → ¬ nI 3 ≤ a_rectW f) ∧ (v1 = 2 → ¬ nI 3 ≤ a_rectH f))) → wpX_split A (nI w0, nI h0, f_root, nI f, f_liveCount, a_parent, a_first, a_second, a_orientation, a_share, a_leastWidth, a_leastHeight, a_rectX, a_rectY, a_rectW, a_rectH, a_order, a_live, a_screenWidth, a_screenHeight, a_cursorRow, a_cursorCol, a_regionTop, a_regionBottom, a_parserMode, a_paramOne, a_paramTwo, a_paramIndex, a_cells) v1 := by
    intro h
    refine xs_no ep j5 h (K _ _ (fun B KB => xs_no epb j5 ?_ (KB _ _ R0)))
    rw [lvE.2.2.1, lvE.2.2.2]
    exact h
  by_cases hv : v1 = 1 ∨ v1 = 2
  · by_cases all : ∀ g, g < 8 → a_live g ≠ 0
    · exact no (Or.inr (Or.inl all))
    · have ex : ∃ g, g < 8 ∧ a_live g = 0 := by
        apply Classical.byContradiction
        intro y
        exact all (fun g hg hz => y ⟨g, hg, hz⟩)
      obtain ⟨g, ⟨hg, h0'⟩, least⟩ := pk_least _ ex
      have hl : ∀ i, i < g → a_live i ≠ 0 := fun i hi hz => least i hi ⟨by omega, hz⟩
      by_cases rm : (v1 = 1 → nI 3 ≤ a_rectW f) ∧ (v1 = 2 → nI 3 ≤ a_rectH f)
      · refine xs_yes Ga Pn ep hp kp hv hg h0' hl rm.1 rm.2 (fun nd' po' root' pa' fi' se' ori' sr' lw lh rx ry rw rh ord Ga' F => ?_)
        refine K _ _ (fun B KB => xs_yes Gb (fun x hx => pr_sym (Pn x hx) (Sb x hx)) epb hp kp hv hg h0' hl (by rw [lvE.2.2.1]; exact rm.1) (by rw [lvE.2.2.2]; exact rm.2) (fun nd2 po2 root2 pa2 fi2 se2 ori2 sr2 lw2 lh2 rx2 ry2 rw2 rh2 ord2 Gb' F2 => ?_))
        have lup : ∀ x, a_live x ≠ 0 → upd a_live g 1 x ≠ 0 := by
          intro x hx
          have : x ≠ g := fun e => hx (by rw [e]; exact h0')
          rw [pk_un this]; exact hx
        have lg : upd a_live g 1 g ≠ 0 := by rw [pk_us]; decide
        obtain ⟨q1, q2, q3, q4, q5, q6⟩ := pr_eqs (dv := a_live) (lv := a_live) (R := a_cursorRow) (C := a_cursorCol) (T := a_regionTop) (B := a_regionBottom) Ga' Gb' (fun x hx hz => ⟨hz, lup x hz⟩) Sb
        have re := pr_live Ga' Gb'
        have rg := re g hg lg
        rw [q1, q2, q3, q4, q5, rg.2.2.2]
        have cnt' := lv_c Ga'.1 Ga'.2.2.2.2.2.2.2.2.2
        refine KB _ _ ⟨c + 2, _, _, nd', nd2, _, po', po2, w0, h0, g, rfl, rfl, rfl, rfl, hg, rfl, rfl, lg, ?_, rfl, rfl, rfl, rfl, rfl, rfl, rfl, rfl, rfl, rfl, Ga', Gb', ?_, ?_⟩
        · rw [j9, nI_1]
          exact congrArg nI (by omega)
        · intro x hx
          by_cases z : x = g
          · subst z
            intro _
            obtain ⟨sx1, sy1, nw, nh, s1, s2, s3, s4, s5, s6, s7, s8, _⟩ := rl_sz Ga' hx lg
            refine ⟨rg.1, rg.2.1, rg.2.2.1, rg.2.2.2, pk_us, pk_us, nw, nh, s3, s4, s5, s6, s7, s8, ⟨0, 0, 0, nh - 1, 0, 0, 0, 0, pk_us, by omega, pk_us, by omega, pk_us, ?_, by omega, by omega, pk_us, by omega, pk_us, by omega, pk_us, by omega, pk_us, by omega⟩, fi_new⟩
            rw [pk_us, s4, la_sub1 s7]
          · intro hlx
            have hx0 : a_live x ≠ 0 := by rw [pk_un z] at hlx; exact hlx
            have base := rl_re (lv' := upd a_live g 1) hx hx0 hx0 (Pn x hx) F (re x hx hlx)
            exact rl_cg base id ⟨pk_un z, pk_un z⟩ ⟨pk_un z, pk_un z, pk_un z, pk_un z, pk_un z, pk_un z, pk_un z, pk_un z⟩ (fun w h cr => ce_Oo (fi_newO (B := g * 288)) (fi_newO (B := g * 288)) (by omega) cr) hlx
        · intro x hx hlx
          by_cases z : x = g
          · subst z
            rw [pk_us, pk_us, pk_us, pk_us]
            exact ⟨rg.2.2.1, rfl⟩
          · have hx0 : a_live x ≠ 0 := by rw [pk_un z] at hlx; exact hlx
            rw [pk_un z, pk_un z, pk_un z, pk_un z]
            exact q6 x hx hx0
      · refine no (Or.inr (Or.inr ⟨fun h1 y => rm ⟨fun _ => y, fun h2 => (ge_12 h1 h2).elim⟩, fun h2 y => rm ⟨fun h1 => (ge_12 h1 h2).elim, fun _ => y⟩⟩))
  · exact no (Or.inl ⟨fun h => hv (Or.inl h), fun h => hv (Or.inr h)⟩)
theorem pr_close {u v : St2} {A : Int32 → St2 → Prop} (R : pr_R u v) (K : ∀ r u', (∀ B : Int32 → St2 → Prop, (∀ r' v', pr_R u' v' → B r' v') → wpX_close B v) → A r u') : wpX_close A u := by
  obtain ⟨f_hostWidth, f_hostHeight, f_root, f_focusedPane, f_liveCount, a_parent, a_first, a_second, a_orientation, a_share, a_leastWidth, a_leastHeight, a_rectX, a_rectY, a_rectW, a_rectH, a_order, a_live, a_screenWidth, a_screenHeight, a_cursorRow, a_cursorCol, a_regionTop, a_regionBottom, a_parserMode, a_paramOne, a_paramTwo, a_paramIndex, a_cells⟩ := u
  obtain ⟨f_bhostWidth, f_bhostHeight, f_broot, f_bfocusedPane, f_bliveCount, a_bparent, a_bfirst, a_bsecond, a_borientation, a_bshare, a_bleastWidth, a_bleastHeight, a_brectX, a_brectY, a_brectW, a_brectH, a_border, a_blive, a_bscreenWidth, a_bscreenHeight, a_bcursorRow, a_bcursorCol, a_bregionTop, a_bregionBottom, a_bparserMode, a_bparamOne, a_bparamTwo, a_bparamIndex, a_bcells⟩ := v
  obtain ⟨c, kd, vl, nd, nb, en, po, pb, w0, h0, f, J⟩ := R
  have J0 := J
  obtain ⟨rfl, rfl, rfl, rfl, j5, rfl, rfl, j8, j9, rfl, rfl, rfl, rfl, rfl, rfl, rfl, rfl, rfl, rfl, Ga, Gb, Pn, Sb⟩ := J
  have R0 : pr_R (nI w0, nI h0, f_root, nI f, f_liveCount, a_parent, a_first, a_second, a_orientation, a_share, a_leastWidth, a_leastHeight, a_rectX, a_rectY, a_rectW, a_rectH, a_order, a_live, a_screenWidth, a_screenHeight, a_cursorRow, a_cursorCol, a_regionTop, a_regionBottom, a_parserMode, a_paramOne, a_paramTwo, a_paramIndex, a_cells) (nI w0, nI h0, f_broot, nI f, f_liveCount, a_bparent, a_bfirst, a_bsecond, a_borientation, a_bshare, a_bleastWidth, a_bleastHeight, a_brectX, a_brectY, a_brectW, a_brectH, a_border, a_live, a_bscreenWidth, a_bscreenHeight, a_cursorRow, a_cursorCol, a_regionTop, a_regionBottom, a_parserMode, a_paramOne, a_paramTwo, a_paramIndex, a_bcells) := ⟨c, kd, vl, nd, nb, en, po, pb, w0, h0, f, J0⟩
  obtain ⟨p, hp, kp, ep⟩ := rl_leaf Ga j5 j8
  have lf := (pr_un Ga Gb).2
  have epb : nb p = f := (lf p hp kp).trans ep
  have cnt := lv_c Ga.1 Ga.2.2.2.2.2.2.2.2.2
  have T := Ga.1
  have Tb := Gb.1
  have P := T.1
  have g7 := Ga.2.2.2.2.2.2.2.2.2
  rcases ps_par P p hp with p0 | ⟨u, ch⟩
  · subst p0
    exact xc_no ep j5 T.2.2.2.1 (K _ _ (fun B KB => xc_no epb j5 Tb.2.2.2.1 (KB _ _ R0)))
  · have F := cl_mk (s := if p = u + 1 then u + 2 else u + 1) P kp ch rfl
    generalize hs : (if p = u + 1 then u + 2 else u + 1) = s at F
    obtain ⟨_, f1, f2, f3, f4, f5, f6, f7, f8, f9, f10⟩ := id F
    obtain ⟨d, d1, d2, d3⟩ := ps_fl P s f5
    have ses := (P.2.2 s f5).2.1
    have n8 := ((T.2.2.2.2.2.1 (s + d) (by omega)).2.2.2.1 d2).1
    have lsd := lf (s + d) (by omega) d2
    refine xc_yes ep T F ch hs.symm (xc_45 ep rfl Ga F j5 Pn d1 d2 d3 (fun root' pa' fi' se' ori' lw lh rx ry rw rh ord Ga' Fi => ?_))
    refine K _ _ (fun B KB => xc_yes epb Tb F ch hs.symm (xc_45 epb lsd Gb F j5 (fun x hx => pr_sym (Pn x hx) (Sb x hx)) d1 d2 d3 (fun root2 pa2 fi2 se2 ori2 lw2 lh2 rx2 ry2 rw2 rh2 ord2 Gb' Fi2 => ?_)))
    have dn : ∀ x, upd a_live f 0 x ≠ 0 → a_live x ≠ 0 := by
      intro x hx
      by_cases z : x = f
      · rw [z, pk_us] at hx; exact absurd rfl hx
      · rw [pk_un z] at hx; exact hx
    obtain ⟨q1, q2, q3, q4, q5, q6⟩ := pr_eqs (dv := upd a_live f 0) (lv := a_live) (R := a_cursorRow) (C := a_cursorCol) (T := a_regionTop) (B := a_regionBottom) Ga' Gb' (fun x hx hz => ⟨dn x hz, hz⟩) Sb
    rw [q1, q2, q3, q4, q5]
    have cnt' := lv_c Ga'.1 Ga'.2.2.2.2.2.2.2.2.2
    have sp : nd (s + d) ≠ f := fun y => by
      rw [← ep] at y
      have := tr_inj T (by omega) hp y
      rcases f7 with ⟨x1, x2, x3, x4, x5⟩ | ⟨x1, x2, x3, x4⟩
      · omega
      · have es : en s = p := by rw [x2]; exact x1.symm
        omega
    refine KB _ _ ⟨c - 2, _, _, _, _, _, _, _, w0, h0, nd (s + d), rfl, rfl, rfl, rfl, n8, rfl, rfl, ?_, ?_, rfl, rfl, rfl, rfl, rfl, rfl, rfl, rfl, rfl, rfl, Ga', Gb', rl_fin Ga' (fun x hx hl => dn x hl) Pn Fi (pr_RE Ga' Gb'), q6⟩
    · rw [pk_un sp]
      exact (g7 _ n8).2.mpr ⟨s + d, by omega, rfl⟩
    · rw [j9, la_sub1 (by omega)]
      exact congrArg nI (by omega)
