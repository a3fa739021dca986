theorem rl_cg {lv xx xy xw xh sw sh yx yy yw yh R C T B M P1 P2 K xc yc lv' sw' sh' R' C' T' B' M' P1' P2' K' xc' yc' : Nat → Int32} {g : Nat} (h : rl_p lv xx xy xw xh sw sh yx yy yw yh R C T B M P1 P2 K xc yc g) (hl : lv' g ≠ 0 → lv g ≠ 0) (es : sw' g = sw g ∧ sh' g = sh g)
    (e : R' g = R g ∧ C' g = C g ∧ T' g = T g ∧ B' g = B g ∧ M' g = M g ∧ P1' g = P1 g ∧ P2' g = P2 g ∧ K' g = K g) (ce : ∀ w h, ce_R (g * 288) w h xc yc → ce_R (g * 288) w h xc' yc') : rl_p lv' xx xy xw xh sw' sh' yx yy yw yh R' C' T' B' M' P1' P2' K' xc' yc' g := by
  intro hl'
  obtain ⟨a1, a2, a3, a4, a5, a6, w, hh, b1, b2, b3, b4, b5, b6, q, cr⟩ := h (hl hl')
  obtain ⟨e1, e2, e3, e4, e5, e6, e7, e8⟩ := e
  refine ⟨a1, a2, a3, a4, es.1.trans a5, es.2.trans a6, w, hh, b1, b2, b3, b4, b5, b6, ?_, ce w hh cr⟩
  unfold rl_q at q ⊢
  rw [e1, e2, e3, e4, e5, e6, e7, e8]
  exact q
/-- the sizes before and after a layout, of the panes that stay -/
theorem rl_F {c : Nat} {nd en po : Nat → Nat} {w0 h0 : Nat} {root : Int32} {pa fi se ori sr lw lh rx ry rw rh kd vl dv lv xx xy xw xh sw sh yx yy yw yh R C T B M P1 P2 K xc yc lv' : Nat → Int32} (G : rl_G c nd en po w0 h0 root pa fi se ori sr lw lh rx ry rw rh kd vl lv')
    (hd : ∀ g, g < 8 → dv g ≠ 0 → lv g ≠ 0 ∧ lv' g ≠ 0) (Pn : ∀ g, g < 8 → rl_p lv xx xy xw xh sw sh yx yy yw yh R C T B M P1 P2 K xc yc g) : fi_F dv sw sh rw rh (fi_k sw rw) (fi_k sh rh) := by
  intro g hg hz
  obtain ⟨l1, l2⟩ := hd g hg hz
  obtain ⟨a1, a2, a3, a4, a5, a6, w, h, b1, b2, b3, b4, b5, b6, _⟩ := Pn g hg l1
  obtain ⟨x, y, nw, nh, c1, c2, c3, c4, c5, c6, c7, c8, _⟩ := rl_sz G hg l2
  have e1 := a5.trans b1
  have e2 := a6.trans b2
  exact ⟨w, h, nw, nh, e1, e2, c3, c4, c5, c6, c7, c8, b4, b6, fi_kk e1 c3 b4 c6, fi_kk e2 c4 (by omega) (by omega)⟩
/-- a live pane is a leaf of the tree -/
theorem rl_leaf {c : Nat} {nd en po : Nat → Nat} {w0 h0 : Nat} {root : Int32} {pa fi se ori sr lw lh rx ry rw rh kd vl lv : Nat → Int32} (G : rl_G c nd en po w0 h0 root pa fi se ori sr lw lh rx ry rw rh kd vl lv) {g : Nat} (hg : g < 8) (hl : lv g ≠ 0) : ∃ q, q < c ∧ kd q = 0 ∧ nd q = g := by
  obtain ⟨T, L, E, g1, g2, g3, g4, g5, g6, g7⟩ := G
  obtain ⟨i, hi, e⟩ := (g7 g hg).2.mp hl
  refine ⟨i, hi, ?_, e⟩
  by_cases z : kd i = 0
  · exact z
  · have := ((T.2.2.2.2.2.1 i hi).2.2.2.2 z).1
    omega
theorem rl_fin {c : Nat} {nd en po : Nat → Nat} {w0 h0 : Nat} {root : Int32} {pa fi se ori sr lw lh rx ry rw rh kd vl dv lv xx xy xw xh sw sh yx yy yw yh R C T B M P1 P2 K xc yc yrx yry yrw yrh : Nat → Int32} {kw kh : Nat → Nat} (G : rl_G c nd en po w0 h0 root pa fi se ori sr lw lh rx ry rw rh kd vl dv)
    (hd : ∀ g, g < 8 → dv g ≠ 0 → lv g ≠ 0) (Pn : ∀ g, g < 8 → rl_p lv xx xy xw xh sw sh yx yy yw yh R C T B M P1 P2 K xc yc g) (F : fi_F dv sw sh rw rh kw kh) (RE : ∀ q, q < c → kd q = 0 → yrx (nd q) = rx (nd q) ∧ yry (nd q) = ry (nd q) ∧ yrw (nd q) = rw (nd q) ∧ yrh (nd q) = rh (nd q)) :
    ∀ g, g < 8 → rl_p dv rx ry rw rh (fi_A dv 8 rw sw) (fi_A dv 8 rh sh) yrx yry yrw yrh (fi_A dv 8 (fi_r R rh) R) (fi_A dv 8 (fi_r C rw) C) (fi_A dv 8 (fi_t T B rh) T) (fi_A dv 8 (fi_b B rh) B) M P1 P2 K (ce_w (fi_S dv kw kh 8) xc) (ce_w (fi_S dv kw kh 8) yc) g := by
  intro g hg hl
  obtain ⟨q, hq, kq, e⟩ := rl_leaf G hg hl
  have r := RE q hq kq
  rw [e] at r
  exact rl_re hg hl (hd g hg hl) (Pn g hg) F r hl
theorem rl_hnd {c : Nat} {nd en po : Nat → Nat} {root : Int32} {pa fi se ori sh kd vl : Nat → Int32} (T : tr_T c nd en po root pa fi se ori sh kd vl) : ∀ i, i < c → kd i = 0 → nd i < 8 ∧ vl i = nI (nd i) := fun i hi h => (T.2.2.2.2.2.1 i hi).2.2.2.1 h
theorem rl_ND {c : Nat} {nd en po : Nat → Nat} {root : Int32} {pa fi se ori sh kd vl : Nat → Int32} (T : tr_T c nd en po root pa fi se ori sh kd vl) : ∀ a b, a < c → b < c → nd a = nd b → a = b := fun a b ha hb e => tr_inj T ha hb e
