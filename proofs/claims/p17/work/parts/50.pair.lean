/-- two layouts of one tree agree, whatever the nodes' numbers are -/
theorem pr_un {c : Nat} {nd nb en po pb : Nat → Nat} {w0 h0 : Nat} {root root' : Int32} {pa fi se ori sr lw lh rx ry rw rh kd vl lv pa' fi' se' ori' sr' lw' lh' rx' ry' rw' rh' lv' : Nat → Int32} (Ga : rl_G c nd en po w0 h0 root pa fi se ori sr lw lh rx ry rw rh kd vl lv) (Gb : rl_G c nb en pb w0 h0 root' pa' fi' se' ori' sr' lw' lh' rx' ry' rw' rh' kd vl lv') :
    (∀ i, i < c → lw' (nb i) = lw (nd i) ∧ lh' (nb i) = lh (nd i) ∧ rx' (nb i) = rx (nd i) ∧ ry' (nb i) = ry (nd i) ∧ rw' (nb i) = rw (nd i) ∧ rh' (nb i) = rh (nd i)) ∧ (∀ q, q < c → kd q = 0 → nb q = nd q) := by
  obtain ⟨T, L, E, g1, g2, g3, g4, g5, g6, g7⟩ := Ga
  obtain ⟨Tb, Lb, Eb, b1, b2, b3, b4, b5, b6, b7⟩ := Gb
  have P := T.1
  have K := T.2.2.2.2.1
  have M := ps_up P (Q := fun i => lw' (nb i) = lw (nd i) ∧ lh' (nb i) = lh (nd i))
    (fun i hi hk => ⟨((Lb i hi).1 hk).1.trans ((L i hi).1 hk).1.symm, ((Lb i hi).1 hk).2.trans ((L i hi).1 hk).2.symm⟩)
    (fun i hi hk q1 q2 => by
      obtain ⟨_, l1, l2⟩ := L i hi
      obtain ⟨_, m1, m2⟩ := Lb i hi
      rw [q1.1, q1.2, q2.1, q2.2] at m1 m2
      rcases K i hi with z | ⟨z | z, _⟩
      · exact absurd z hk
      · exact ⟨(m1 z).1.trans (l1 z).1.symm, (m1 z).2.trans (l1 z).2.symm⟩
      · exact ⟨(m2 z).1.trans (l2 z).1.symm, (m2 z).2.trans (l2 z).2.symm⟩)
  obtain ⟨E1, E2, E3, E4, E5⟩ := E
  obtain ⟨F1, F2, F3, F4, F5⟩ := Eb
  have D := ps_down P (Q := fun i => rx' (nb i) = rx (nd i) ∧ ry' (nb i) = ry (nd i) ∧ rw' (nb i) = rw (nd i) ∧ rh' (nb i) = rh (nd i))
    ⟨F1.trans E1.symm, F2.trans E2.symm, F3.trans E3.symm, F4.trans E4.symm⟩
    (fun i hi hk q => by
      obtain ⟨q1, q2, q3, q4⟩ := q
      obtain ⟨a1, a2, a3, a4, a5, a6⟩ := ps_nd P hi hk
      have m1 := M (i + 1) a5
      have m2 := M (en (i + 1)) a6
      obtain ⟨x1, x2⟩ := E5 i hi
      obtain ⟨y1, y2⟩ := F5 i hi
      rw [m1.1, m2.1, q1, q2, q3, q4] at y1
      rw [m1.2, m2.2, q1, q2, q3, q4] at y2
      rcases K i hi with z | ⟨z | z, _⟩
      · exact absurd z hk
      · obtain ⟨s1, s2, s3, s4, s5, s6, s7, s8⟩ := x1 z
        obtain ⟨t1, t2, t3, t4, t5, t6, t7, t8⟩ := y1 z
        exact ⟨⟨t1.trans s1.symm, t2.trans s2.symm, t3.trans s3.symm, t4.trans s4.symm⟩, ⟨t5.trans s5.symm, t6.trans s6.symm, t7.trans s7.symm, t8.trans s8.symm⟩⟩
      · obtain ⟨s1, s2, s3, s4, s5, s6, s7, s8⟩ := x2 z
        obtain ⟨t1, t2, t3, t4, t5, t6, t7, t8⟩ := y2 z
        exact ⟨⟨t1.trans s1.symm, t2.trans s2.symm, t3.trans s3.symm, t4.trans s4.symm⟩, ⟨t5.trans s5.symm, t6.trans s6.symm, t7.trans s7.symm, t8.trans s8.symm⟩⟩)
  refine ⟨fun i hi => ⟨(M i hi).1, (M i hi).2, D i hi⟩, fun q hq hk => ?_⟩
  have h1 := (T.2.2.2.2.2.1 q hq).2.2.2.1 hk
  have h2 := (Tb.2.2.2.2.2.1 q hq).2.2.2.1 hk
  exact (nI_eq (by omega) (by omega)).mp (h2.2.symm.trans h1.2)
theorem pr_RE {c : Nat} {nd nb en po pb : Nat → Nat} {w0 h0 : Nat} {root root' : Int32} {pa fi se ori sr lw lh rx ry rw rh kd vl lv pa' fi' se' ori' sr' lw' lh' rx' ry' rw' rh' lv' : Nat → Int32} (Ga : rl_G c nd en po w0 h0 root pa fi se ori sr lw lh rx ry rw rh kd vl lv) (Gb : rl_G c nb en pb w0 h0 root' pa' fi' se' ori' sr' lw' lh' rx' ry' rw' rh' kd vl lv') :
    ∀ q, q < c → kd q = 0 → rx' (nd q) = rx (nd q) ∧ ry' (nd q) = ry (nd q) ∧ rw' (nd q) = rw (nd q) ∧ rh' (nd q) = rh (nd q) := by
  intro q hq hk
  obtain ⟨A, B⟩ := pr_un Ga Gb
  have a := A q hq
  rw [B q hq hk] at a
  exact ⟨a.2.2.1, a.2.2.2.1, a.2.2.2.2.1, a.2.2.2.2.2⟩
theorem pr_live {c : Nat} {nd nb en po pb : Nat → Nat} {w0 h0 : Nat} {root root' : Int32} {pa fi se ori sr lw lh rx ry rw rh kd vl lv pa' fi' se' ori' sr' lw' lh' rx' ry' rw' rh' lv' : Nat → Int32} (Ga : rl_G c nd en po w0 h0 root pa fi se ori sr lw lh rx ry rw rh kd vl lv) (Gb : rl_G c nb en pb w0 h0 root' pa' fi' se' ori' sr' lw' lh' rx' ry' rw' rh' kd vl lv') :
    ∀ g, g < 8 → lv g ≠ 0 → rx' g = rx g ∧ ry' g = ry g ∧ rw' g = rw g ∧ rh' g = rh g := by
  intro g hg hl
  obtain ⟨q, hq, kq, e⟩ := rl_leaf Ga hg hl
  have r := pr_RE Ga Gb q hq kq
  rw [e] at r
  exact r
/-- the two objects, with the ghosts given: one tree, the same panes -/
def pr_J (f_hostWidth f_hostHeight f_root f_focusedPane f_liveCount : Int32) (a_parent a_first a_second a_orientation a_share a_leastWidth a_leastHeight a_rectX a_rectY a_rectW a_rectH a_order a_live a_screenWidth a_screenHeight a_cursorRow a_cursorCol a_regionTop a_regionBottom a_parserMode a_paramOne a_paramTwo a_paramIndex a_cells : Nat → Int32) (f_bhostWidth f_bhostHeight f_broot f_bfocusedPane f_bliveCount : Int32) (a_bparent a_bfirst a_bsecond a_borientation a_bshare a_bleastWidth a_bleastHeight a_brectX a_brectY a_brectW a_brectH a_border a_blive a_bscreenWidth a_bscreenHeight a_bcursorRow a_bcursorCol a_bregionTop a_bregionBottom a_bparserMode a_bparamOne a_bparamTwo a_bparamIndex a_bcells : Nat → Int32) (c : Nat) (kd vl : Nat → Int32) (nd nb en po pb : Nat → Nat) (w0 h0 f : Nat) : Prop :=
  f_hostWidth = nI w0 ∧ f_hostHeight = nI h0 ∧ f_hostWidth = f_bhostWidth ∧ f_hostHeight = f_bhostHeight ∧ f < 8 ∧ f_focusedPane = nI f ∧ f_focusedPane = f_bfocusedPane ∧ a_live f ≠ 0 ∧ f_liveCount = nI (cc_n (fun g => a_live g ≠ 0) 8) ∧ f_liveCount = f_bliveCount ∧
  a_live = a_blive ∧ a_cursorRow = a_bcursorRow ∧ a_cursorCol = a_bcursorCol ∧ a_regionTop = a_bregionTop ∧ a_regionBottom = a_bregionBottom ∧ a_parserMode = a_bparserMode ∧ a_paramOne = a_bparamOne ∧ a_paramTwo = a_bparamTwo ∧ a_paramIndex = a_bparamIndex ∧
  rl_G c nd en po w0 h0 f_root a_parent a_first a_second a_orientation a_share a_leastWidth a_leastHeight a_rectX a_rectY a_rectW a_rectH kd vl a_live ∧
  rl_G c nb en pb w0 h0 f_broot a_bparent a_bfirst a_bsecond a_borientation a_bshare a_bleastWidth a_bleastHeight a_brectX a_brectY a_brectW a_brectH kd vl a_live ∧
  (∀ g, g < 8 → rl_p a_live a_rectX a_rectY a_rectW a_rectH a_screenWidth a_screenHeight a_brectX a_brectY a_brectW a_brectH a_cursorRow a_cursorCol a_regionTop a_regionBottom a_parserMode a_paramOne a_paramTwo a_paramIndex a_cells a_bcells g) ∧
  (∀ g, g < 8 → a_live g ≠ 0 → a_bscreenWidth g = a_screenWidth g ∧ a_bscreenHeight g = a_screenHeight g)
def pr_R (u v : St2) : Prop := match u, v with
  | (f_hostWidth, f_hostHeight, f_root, f_focusedPane, f_liveCount, a_parent, a_first, a_second, a_orientation, a_share, a_leastWidth, a_leastHeight, a_rectX, a_rectY, a_rectW, a_rectH, a_order, a_live, a_screenWidth, a_screenHeight, a_cursorRow, a_cursorCol, a_regionTop, a_regionBottom, a_parserMode, a_paramOne, a_paramTwo, a_paramIndex, a_cells), (f_bhostWidth, f_bhostHeight, f_broot, f_bfocusedPane, f_bliveCount, a_bparent, a_bfirst, a_bsecond, a_borientation, a_bshare, a_bleastWidth, a_bleastHeight, a_brectX, a_brectY, a_brectW, a_brectH, a_border, a_blive, a_bscreenWidth, a_bscreenHeight, a_bcursorRow, a_bcursorCol, a_bregionTop, a_bregionBottom, a_bparserMode, a_bparamOne, a_bparamTwo, a_bparamIndex, a_bcells) => ∃ c kd vl nd nb en po pb w0 h0 f, pr_J f_hostWidth f_hostHeight f_root f_focusedPane f_liveCount a_parent a_first a_second a_orientation a_share a_leastWidth a_leastHeight a_rectX a_rectY a_rectW a_rectH a_order a_live a_screenWidth a_screenHeight a_cursorRow a_cursorCol a_regionTop a_regionBottom a_parserMode a_paramOne a_paramTwo a_paramIndex a_cells f_bhostWidth f_bhostHeight f_broot f_bfocusedPane f_bliveCount a_bparent a_bfirst a_bsecond a_borientation a_bshare a_bleastWidth a_bleastHeight a_brectX a_brectY a_brectW a_brectH a_border a_blive a_bscreenWidth a_bscreenHeight a_bcursorRow a_bcursorCol a_bregionTop a_bregionBottom a_bparserMode a_bparamOne a_bparamTwo a_bparamIndex a_bcells c kd vl nd nb en po pb w0 h0 f
theorem pr_focus {u v : St2} {A : Int32 → St2 → Prop} (x : Int32) (R : pr_R u v) (K : ∀ r u', (∀ B : Int32 → St2 → Prop, (∀ r' v', pr_R u' v' → B r' v') → wpX_focus B v x) → A r u') : wpX_focus A u x := by
  obtain ⟨f_hostWidth, f_hostHeight, f_root, f_focusedPane, f_liveCount, a_parent, a_first, a_second, a_orientation, a_share, a_leastWidth, a_leastHeight, a_rectX, a_rectY, a_rectW, a_rectH, a_order, a_live, a_screenWidth, a_screenHeight, a_cursorRow, a_cursorCol, a_regionTop, a_regionBottom, a_parserMode, a_paramOne, a_paramTwo, a_paramIndex, a_cells⟩ := u
  obtain ⟨f_bhostWidth, f_bhostHeight, f_broot, f_bfocusedPane, f_bliveCount, a_bparent, a_bfirst, a_bsecond, a_borientation, a_bshare, a_bleastWidth, a_bleastHeight, a_brectX, a_brectY, a_brectW, a_brectH, a_border, a_blive, a_bscreenWidth, a_bscreenHeight, a_bcursorRow, a_bcursorCol, a_bregionTop, a_bregionBottom, a_bparserMode, a_bparamOne, a_bparamTwo, a_bparamIndex, a_bcells⟩ := v
  obtain ⟨c, kd, vl, nd, nb, en, po, pb, w0, h0, f, J⟩ := R
  have J0 := J
  obtain ⟨rfl, rfl, rfl, rfl, j5, rfl, rfl, j8, j9, rfl, rfl, rfl, rfl, rfl, rfl, rfl, rfl, rfl, rfl, Ga, Gb, Pn, Sb⟩ := J
  unfold wpX_focus
  rcases pd_or a_live x with D | ⟨g, hg, e, hl⟩
  · exact xw_dead D (br_t rfl (K _ _ (fun B KB => by unfold wpX_focus; exact xw_dead D (br_t rfl (KB _ _ ⟨c, kd, vl, nd, nb, en, po, pb, w0, h0, f, J0⟩)))))
  · subst e
    exact xw_live hg hl (br_f (by decide) (K _ _ (fun B KB => by unfold wpX_focus; exact xw_live hg hl (br_f (by decide) (KB _ _ ⟨c, kd, vl, nd, nb, en, po, pb, w0, h0, g, rfl, rfl, rfl, rfl, hg, rfl, rfl, hl, j9, rfl, rfl, rfl, rfl, rfl, rfl, rfl, rfl, rfl, rfl, Ga, Gb, Pn, Sb⟩)))))
theorem pr_next {u v : St2} {A : Int32 → St2 → Prop} (R : pr_R u v) (K : ∀ r u', (∀ B : Int32 → St2 → Prop, (∀ r' v', pr_R u' v' → B r' v') → wpX_focusNext B v) → A r u') : wpX_focusNext A u := by
  obtain ⟨f_hostWidth, f_hostHeight, f_root, f_focusedPane, f_liveCount, a_parent, a_first, a_second, a_orientation, a_share, a_leastWidth, a_leastHeight, a_rectX, a_rectY, a_rectW, a_rectH, a_order, a_live, a_screenWidth, a_screenHeight, a_cursorRow, a_cursorCol, a_regionTop, a_regionBottom, a_parserMode, a_paramOne, a_paramTwo, a_paramIndex, a_cells⟩ := u
  obtain ⟨f_bhostWidth, f_bhostHeight, f_broot, f_bfocusedPane, f_bliveCount, a_bparent, a_bfirst, a_bsecond, a_borientation, a_bshare, a_bleastWidth, a_bleastHeight, a_brectX, a_brectY, a_brectW, a_brectH, a_border, a_blive, a_bscreenWidth, a_bscreenHeight, a_bcursorRow, a_bcursorCol, a_bregionTop, a_bregionBottom, a_bparserMode, a_bparamOne, a_bparamTwo, a_bparamIndex, a_bcells⟩ := v
  obtain ⟨c, kd, vl, nd, nb, en, po, pb, w0, h0, f, J⟩ := R
  obtain ⟨rfl, rfl, rfl, rfl, j5, rfl, rfl, j8, j9, rfl, rfl, rfl, rfl, rfl, rfl, rfl, rfl, rfl, rfl, Ga, Gb, Pn, Sb⟩ := J
  obtain ⟨p, hp, kp, ep⟩ := rl_leaf Ga j5 j8
  have lf := (pr_un Ga Gb).2
  have T := Ga.1
  have g7 := Ga.2.2.2.2.2.2.2.2.2
  subst ep
  refine xw_next T hp kp rfl (fun n F => K _ _ (fun B KB => xw_next Gb.1 hp kp (by rw [lf p hp kp]) (fun n' F' => ?_)))
  have en' := fn_un F' F
  subst en'
  rw [lf n' F.1 F.2.1]
  have n8 := ((T.2.2.2.2.2.1 n' F.1).2.2.2.1 F.2.1).1
  exact KB _ _ ⟨c, kd, vl, nd, nb, en, po, pb, w0, h0, nd n', rfl, rfl, rfl, rfl, n8, rfl, rfl, (g7 _ n8).2.mpr ⟨n', F.1, rfl⟩, j9, rfl, rfl, rfl, rfl, rfl, rfl, rfl, rfl, rfl, rfl, Ga, Gb, Pn, Sb⟩
/-- after both have laid out and fitted, with the tree and the flags as they are -/
theorem pr_fin {c : Nat} {nd nb en po pb : Nat → Nat} {w0 h0 : Nat} {root root' : Int32} {pa fi se ori sr lw lh rx ry rw rh kd vl dv pa' fi' se' ori' sr' lw' lh' rx' ry' rw' rh' : Nat → Int32} {lv xx xy xw xh sw sh yx yy yw yh R C T B M P1 P2 K xc yc bsw bsh : Nat → Int32} {kw kh : Nat → Nat}
    (Ga : rl_G c nd en po w0 h0 root pa fi se ori sr lw lh rx ry rw rh kd vl dv) (Gb : rl_G c nb en pb w0 h0 root' pa' fi' se' ori' sr' lw' lh' rx' ry' rw' rh' kd vl dv) (hd : ∀ g, g < 8 → dv g ≠ 0 → lv g ≠ 0) (Pn : ∀ g, g < 8 → rl_p lv xx xy xw xh sw sh yx yy yw yh R C T B M P1 P2 K xc yc g) (Sb : ∀ g, g < 8 → lv g ≠ 0 → bsw g = sw g ∧ bsh g = sh g) (F : fi_F dv sw sh rw rh kw kh) :
    fi_F dv bsw bsh rw' rh' kw kh ∧ fi_A dv 8 (fi_r R rh') R = fi_A dv 8 (fi_r R rh) R ∧ fi_A dv 8 (fi_r C rw') C = fi_A dv 8 (fi_r C rw) C ∧ fi_A dv 8 (fi_t T B rh') T = fi_A dv 8 (fi_t T B rh) T ∧ fi_A dv 8 (fi_b B rh') B = fi_A dv 8 (fi_b B rh) B ∧
    (∀ g, g < 8 → rl_p dv rx ry rw rh (fi_A dv 8 rw sw) (fi_A dv 8 rh sh) rx' ry' rw' rh' (fi_A dv 8 (fi_r R rh) R) (fi_A dv 8 (fi_r C rw) C) (fi_A dv 8 (fi_t T B rh) T) (fi_A dv 8 (fi_b B rh) B) M P1 P2 K (ce_w (fi_S dv kw kh 8) xc) (ce_w (fi_S dv kw kh 8) yc) g) ∧
    (∀ g, g < 8 → dv g ≠ 0 → fi_A dv 8 rw' bsw g = fi_A dv 8 rw sw g ∧ fi_A dv 8 rh' bsh g = fi_A dv 8 rh sh g) := by
  have eq := pr_live Ga Gb
  refine ⟨fi_Fe F (fun g hg hz => ⟨(Sb g hg (hd g hg hz)).1, (Sb g hg (hd g hg hz)).2, (eq g hg hz).2.2.1, (eq g hg hz).2.2.2⟩), ?_, ?_, ?_, ?_, rl_fin Ga hd Pn F (pr_RE Ga Gb), fun g hg hz => ?_⟩
  · exact fi_Ae (fun g hg hz => by unfold fi_r; rw [(eq g hg hz).2.2.2])
  · exact fi_Ae (fun g hg hz => by unfold fi_r; rw [(eq g hg hz).2.2.1])
  · exact fi_Ae (fun g hg hz => by unfold fi_t; rw [(eq g hg hz).2.2.2])
  · exact fi_Ae (fun g hg hz => by unfold fi_b; rw [(eq g hg hz).2.2.2])
  · rw [fi_An hg hz, fi_An hg hz, fi_An hg hz, fi_An hg hz]
    exact ⟨(eq g hg hz).2.2.1, (eq g hg hz).2.2.2⟩
