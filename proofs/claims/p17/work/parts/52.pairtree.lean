theorem fi_Sc {dv : Nat → Int32} {kw kh kw' kh' : Nat → Nat} {i : Nat} {a : Nat → Int32} (h : ∀ g, g < i → dv g ≠ 0 → kw g = kw' g ∧ kh g = kh' g) : ce_w (fi_S dv kw kh i) a = ce_w (fi_S dv kw' kh' i) a := by
  apply ce_we
  intro j
  unfold fi_S
  constructor
  · rintro ⟨z1, z2, z3⟩
    obtain ⟨e1, e2⟩ := h _ z1 z2
    rw [e1, e2] at z3
    exact ⟨z1, z2, z3⟩
  · rintro ⟨z1, z2, z3⟩
    obtain ⟨e1, e2⟩ := h _ z1 z2
    rw [← e1, ← e2] at z3
    exact ⟨z1, z2, z3⟩
section TX
variable {f_hostWidth f_hostHeight f_root f_focusedPane f_liveCount : Int32} {a_parent a_first a_second a_orientation a_share a_leastWidth a_leastHeight a_rectX a_rectY a_rectW a_rectH a_order a_live a_screenWidth a_screenHeight a_cursorRow a_cursorCol a_regionTop a_regionBottom a_parserMode a_paramOne a_paramTwo a_paramIndex a_cells : Nat → Int32}
variable {c : Nat} {kd vl : Nat → Int32} {nd en po : Nat → Nat} {w0 h0 : Nat}
/-- a split that is refused -/
theorem xs_no {post : Int32 → St2 → Prop} {p f : Nat} {v1 : Int32} (hf : nd p = f) (p8 : f < 8) (no : (v1 ≠ 1 ∧ v1 ≠ 2) ∨ (∀ g, g < 8 → a_live g ≠ 0) ∨ ((v1 = 1 → ¬ nI 3 ≤ a_rectW f) ∧ (v1 = 2 → ¬ nI 3 ≤ a_rectH f))) (K : post (-1) (f_hostWidth, f_hostHeight, f_root, nI f, f_liveCount, a_parent, a_first, a_second, a_orientation, a_share, a_leastWidth, a_leastHeight, a_rectX, a_rectY, a_rectW, a_rectH, a_order, a_live, a_screenWidth, a_screenHeight, a_cursorRow, a_cursorCol, a_regionTop, a_regionBottom, a_parserMode, a_paramOne, a_paramTwo, a_paramIndex, a_cells)) : wpX_split post (f_hostWidth, f_hostHeight, f_root, nI f, f_liveCount, a_parent, a_first, a_second, a_orientation, a_share, a_leastWidth, a_leastHeight, a_rectX, a_rectY, a_rectW, a_rectH, a_order, a_live, a_screenWidth, a_screenHeight, a_cursorRow, a_cursorCol, a_regionTop, a_regionBottom, a_parserMode, a_paramOne, a_paramTwo, a_paramIndex, a_cells) v1 := by
  subst hf
  have v15p : vp_in (nI (nd p)) 15 := vi_15 (by omega)
  have c15p : (nI (nd p)).toNatClampNeg = nd p := cg_15 (by omega)
  have B : (v1 = 1 ∨ v1 = 2) → wX_split_12 post v1 f_hostWidth f_hostHeight f_root (nI (nd p)) f_liveCount a_parent a_first a_second a_orientation a_share a_leastWidth a_leastHeight a_rectX a_rectY a_rectW a_rectH a_order a_live a_screenWidth a_screenHeight a_cursorRow a_cursorCol a_regionTop a_regionBottom a_parserMode a_paramOne a_paramTwo a_paramIndex a_cells := by
    intro hv
    unfold wX_split_12
    refine xw_lfree (fun all => br_t rfl K) (fun g hg h0' hl => br_f (tr_m1 (by omega)) ?_)
    have rm : (v1 = 1 → ¬ nI 3 ≤ a_rectW (nd p)) ∧ (v1 = 2 → ¬ nI 3 ≤ a_rectH (nd p)) := by
      rcases no with n | n | n
      · rcases hv with h | h
        · exact absurd h n.1
        · exact absurd h n.2
      · exact absurd h0' (n g hg)
      · exact n
    by_cases y : v1 = 1
    · refine br_t y ⟨v15p, ?_⟩
      rw [c15p]
      exact br_f (rm.1 y) K
    · refine br_f y ⟨v15p, ?_⟩
      have y2 : v1 = 2 := by rcases hv with h | h; exact absurd h y; exact h
      rw [c15p]
      exact br_f (rm.2 y2) K
  by_cases h1 : v1 = 1
  · exact br_t h1 (B (Or.inl h1))
  · by_cases h2 : v1 = 2
    · exact br_f h1 (br_t h2 (B (Or.inr h2)))
    · exact br_f h1 (br_f h2 K)
/-- a split that is done -/
theorem xs_yes {post : Int32 → St2 → Prop} {p g f : Nat} {v1 : Int32} {yx yy yw yh xc yc : Nat → Int32} (G : rl_G c nd en po w0 h0 f_root a_parent a_first a_second a_orientation a_share a_leastWidth a_leastHeight a_rectX a_rectY a_rectW a_rectH kd vl a_live)
    (Pn : ∀ g, g < 8 → rl_p a_live a_rectX a_rectY a_rectW a_rectH a_screenWidth a_screenHeight yx yy yw yh a_cursorRow a_cursorCol a_regionTop a_regionBottom a_parserMode a_paramOne a_paramTwo a_paramIndex xc yc g)
    (hf : nd p = f) (hp : p < c) (kp : kd p = 0) (hv : v1 = 1 ∨ v1 = 2) (hg : g < 8) (h0' : a_live g = 0) (hl : ∀ i, i < g → a_live i ≠ 0) (rm1 : v1 = 1 → nI 3 ≤ a_rectW f) (rm2 : v1 = 2 → nI 3 ≤ a_rectH f)
    (K : ∀ (nd' po' : Nat → Nat) (root' : Int32) (pa' fi' se' ori' sr' lw lh rx ry rw rh ord : Nat → Int32), rl_G (c + 2) nd' (sp_f p (p + 3) (p + 2) (p + 3) (fun j => sp_s p (en j))) po' w0 h0 root' pa' fi' se' ori' sr' lw lh rx ry rw rh (sp_f p v1 0 0 kd) (sp_f p 50 (nI f) (nI g) vl) (upd a_live g 1) →
      fi_F a_live a_screenWidth a_screenHeight rw rh (fi_k a_screenWidth rw) (fi_k a_screenHeight rh) →
      post (nI g) (nI w0, nI h0, root', nI g, f_liveCount + 1, pa', fi', se', ori', sr', lw, lh, rx, ry, rw, rh, ord, upd a_live g 1, upd (fi_A a_live 8 rw a_screenWidth) g (rw g), upd (fi_A a_live 8 rh a_screenHeight) g (rh g), upd (fi_A a_live 8 (fi_r a_cursorRow rh) a_cursorRow) g 0, upd (fi_A a_live 8 (fi_r a_cursorCol rw) a_cursorCol) g 0, upd (fi_A a_live 8 (fi_t a_regionTop a_regionBottom rh) a_regionTop) g 0, upd (fi_A a_live 8 (fi_b a_regionBottom rh) a_regionBottom) g (rh g - 1), upd a_parserMode g 0, upd a_paramOne g 0, upd a_paramTwo g 0, upd a_paramIndex g 0, ce_w (ce_q (g * 288) 0 0 12 24) (ce_w (fi_S a_live (fi_k a_screenWidth rw) (fi_k a_screenHeight rh) 8) a_cells))) :
    wpX_split post (nI w0, nI h0, f_root, nI f, f_liveCount, a_parent, a_first, a_second, a_orientation, a_share, a_leastWidth, a_leastHeight, a_rectX, a_rectY, a_rectW, a_rectH, a_order, a_live, a_screenWidth, a_screenHeight, a_cursorRow, a_cursorCol, a_regionTop, a_regionBottom, a_parserMode, a_paramOne, a_paramTwo, a_paramIndex, a_cells) v1 := by
  subst hf
  obtain ⟨T, L, E, g1, g2, g3, g4, g5, g6, g7⟩ := id G
  obtain ⟨P, T2, T3, T4, T5, T6, T7⟩ := id T
  have p8 := ((T6 p hp).2.2.2.1 kp).1
  have v15p : vp_in (nI (nd p)) 15 := vi_15 (by omega)
  have c15p : (nI (nd p)).toNatClampNeg = nd p := cg_15 (by omega)
  obtain ⟨c13, cnt7, notin⟩ := lv_free T g7 hg h0'
  obtain ⟨X, Y, W, H, mw, mh, N, GG⟩ := rl_nat G
  obtain ⟨n1, n2, n3, n4, n5, n6, n7, n8, n9, n10, n11, n12⟩ := N p hp
  have B50 : ∀ z, nI 3 ≤ z → wX_split_50 post v1 (nI g) z (nI w0) (nI h0) f_root (nI (nd p)) f_liveCount a_parent a_first a_second a_orientation a_share a_leastWidth a_leastHeight a_rectX a_rectY a_rectW a_rectH a_order a_live a_screenWidth a_screenHeight a_cursorRow a_cursorCol a_regionTop a_regionBottom a_parserMode a_paramOne a_paramTwo a_paramIndex a_cells := by
    intro z hz
    refine br_t hz (xw_fnode T c13 (fun Nn N8 N15 hN' => xw_put T hp N15 (fun root' fi' se' S => ?_)))
    have vN : vp_in (nI Nn) 15 := vi_15 N15
    have cN : (nI Nn).toNatClampNeg = Nn := cg_15 N15
    have vg : vp_in (nI g) 15 := vi_15 (by omega)
    have cg : (nI g).toNatClampNeg = g := cg_15 (by omega)
    have T' := sp_T T c13 hp kp hv ⟨N8, N15⟩ hN' hg notin S
    have V' := lv_split (N := Nn) g7 hp N8 hg h0'
    refine ⟨vN, nm_r (e' := upd a_orientation Nn v1) (by rw [cN]) ⟨vN, nm_r (e' := upd a_share Nn 50) (by rw [cN]) ⟨vN, nm_r (e' := upd fi' Nn (nI (nd p))) (by rw [cN]) ⟨vN, nm_r (e' := upd se' Nn (nI g)) (by rw [cN]) ⟨v15p, nm_r (e' := upd (upd a_parent Nn (a_parent (nd p))) (nd p) (nI Nn)) (by rw [c15p]) ⟨vg, nm_r (e' := upd (upd (upd a_parent Nn (a_parent (nd p))) (nd p) (nI Nn)) g (nI Nn)) (by rw [cg]) (xw_layOut T' (fun lw lh rx ry rw rh ord L' E' => ?_))⟩⟩⟩⟩⟩⟩
    obtain ⟨ma, mb, m1, m2, m3, m4⟩ := sp_min (nd' := sp_f p Nn (nd p) g nd) P T5 hp kp hv g2 g4 N GG (fun y => by have := rm1 y; rw [n5, nI_leI (by omega) (by omega)] at this; exact this) (fun y => by have := rm2 y; rw [n6, nI_leI (by omega) (by omega)] at this; exact this) (fun j _ => rfl) L'
    have G' : rl_G (c + 2) (sp_f p Nn (nd p) g nd) (sp_f p (p + 3) (p + 2) (p + 3) (fun j => sp_s p (en j))) (fun n => if n = Nn then p else if n = nd p then p + 1 else if n = g then p + 2 else sp_s p (po n)) w0 h0 root' (upd (upd (upd a_parent Nn (a_parent (nd p))) (nd p) (nI Nn)) g (nI Nn)) (upd fi' Nn (nI (nd p))) (upd se' Nn (nI g)) (upd a_orientation Nn v1) (upd a_share Nn 50) lw lh rx ry rw rh (sp_f p v1 0 0 kd) (sp_f p 50 (nI (nd p)) (nI g) vl) (upd a_live g 1) :=
      ⟨T', L', E', g1, g2, g3, g4, rl_ex ⟨ma, m1, m3⟩ g2, rl_ex ⟨mb, m2, m4⟩ (by omega), V'⟩
    have F := rl_F (dv := a_live) G' (fun x hx hl => ⟨hl, by
      have : x ≠ g := fun e => hl (by rw [e]; exact h0')
      rw [pk_un this]; exact hl⟩) Pn
    exact xw_fits F (xw_start hg (K _ _ root' _ _ _ _ _ lw lh rx ry rw rh ord G' F))
  have B : wX_split_12 post v1 (nI w0) (nI h0) f_root (nI (nd p)) f_liveCount a_parent a_first a_second a_orientation a_share a_leastWidth a_leastHeight a_rectX a_rectY a_rectW a_rectH a_order a_live a_screenWidth a_screenHeight a_cursorRow a_cursorCol a_regionTop a_regionBottom a_parserMode a_paramOne a_paramTwo a_paramIndex a_cells := by
    unfold wX_split_12
    refine xw_lfree (fun all => absurd h0' (all g hg)) (fun g' hg' h0'' hl' => ?_)
    have eg : g' = g := by
      rcases Nat.lt_trichotomy g' g with h | h | h
      · exact absurd h0'' (hl g' h)
      · exact h
      · exact absurd h0' (hl' g h)
    subst eg
    refine br_f (tr_m1 (by omega)) ?_
    by_cases y : v1 = 1
    · refine br_t y ⟨v15p, ?_⟩
      rw [c15p]
      exact B50 _ (rm1 y)
    · refine br_f y ⟨v15p, ?_⟩
      have y2 : v1 = 2 := by rcases hv with h | h; exact absurd h y; exact h
      rw [c15p]
      exact B50 _ (rm2 y2)
  by_cases h1 : v1 = 1
  · exact br_t h1 B
  · have h2 : v1 = 2 := by rcases hv with h | h; exact absurd h h1; exact h
    exact br_f h1 (br_t h2 B)
theorem xc_no {post : Int32 → St2 → Prop} {p f : Nat} (hf : nd p = f) (p8 : f < 8) (e : a_parent (nd p) = -1) (K : post 0 (f_hostWidth, f_hostHeight, f_root, nI f, f_liveCount, a_parent, a_first, a_second, a_orientation, a_share, a_leastWidth, a_leastHeight, a_rectX, a_rectY, a_rectW, a_rectH, a_order, a_live, a_screenWidth, a_screenHeight, a_cursorRow, a_cursorCol, a_regionTop, a_regionBottom, a_parserMode, a_paramOne, a_paramTwo, a_paramIndex, a_cells)) : wpX_close post (f_hostWidth, f_hostHeight, f_root, nI f, f_liveCount, a_parent, a_first, a_second, a_orientation, a_share, a_leastWidth, a_leastHeight, a_rectX, a_rectY, a_rectW, a_rectH, a_order, a_live, a_screenWidth, a_screenHeight, a_cursorRow, a_cursorCol, a_regionTop, a_regionBottom, a_parserMode, a_paramOne, a_paramTwo, a_paramIndex, a_cells) := by
  subst hf
  refine ⟨vi_15 (by omega), ?_⟩
  rw [cg_15 (by omega)]
  exact nm_e (br_t e K)
theorem xc_yes {post : Int32 → St2 → Prop} {u p s f : Nat} (hf : nd p = f) (T : tr_T c nd en po f_root a_parent a_first a_second a_orientation a_share kd vl) (F : cl_F c kd en u p s) (ch : ps_ch kd en c u p) (hs : s = if p = u + 1 then u + 2 else u + 1) (K : wX_close_45 post (nI (nd u)) (nI (nd s)) f_hostWidth f_hostHeight f_root (nI f) f_liveCount a_parent a_first a_second a_orientation a_share a_leastWidth a_leastHeight a_rectX a_rectY a_rectW a_rectH a_order a_live a_screenWidth a_screenHeight a_cursorRow a_cursorCol a_regionTop a_regionBottom a_parserMode a_paramOne a_paramTwo a_paramIndex a_cells) : wpX_close post (f_hostWidth, f_hostHeight, f_root, nI f, f_liveCount, a_parent, a_first, a_second, a_orientation, a_share, a_leastWidth, a_leastHeight, a_rectX, a_rectY, a_rectW, a_rectH, a_order, a_live, a_screenWidth, a_screenHeight, a_cursorRow, a_cursorCol, a_regionTop, a_regionBottom, a_parserMode, a_paramOne, a_paramTwo, a_paramIndex, a_cells) := by
  subst hf
  obtain ⟨P, T2, T3, T4, T5, T6, T7⟩ := id T
  obtain ⟨_, f1, f2, f3, f4, f5, f6, f7, f8, f9, f10⟩ := id F
  have p8 := ((T6 p f4).2.2.2.1 f3).1
  have u15 := (T6 u f1).1
  have vu : vp_in (nI (nd u)) 15 := vi_15 u15
  have cu : (nI (nd u)).toNatClampNeg = nd u := cg_15 u15
  obtain ⟨a1, a2, a3, a4, a5, a6⟩ := ps_nd P f1 f2
  obtain ⟨w1, w2, w3, w4, w5, w6⟩ := (T6 u f1).2.2.2.2 f2
  have e : a_parent (nd p) = nI (nd u) := by
    rcases ch.2.2 with h | h
    · rw [h]; exact w5
    · rw [h]; exact w6
  refine ⟨vi_15 (by omega), ?_⟩
  rw [cg_15 (by omega)]
  refine nm_e ?_
  rw [e]
  refine br_f (tr_m1 (by omega)) ⟨vu, ?_⟩
  rw [cu]
  by_cases z : p = u + 1
  · have ef : a_first (nd u) = nI (nd p) := by rw [w3, z]
    refine br_t ef ⟨vu, ?_⟩
    rw [w4]
    have : en (u + 1) = s := by
      rw [if_pos z] at hs
      rw [← z, ps_lf P f4 f3]
      omega
    rw [this]
    exact K
  · have hq : p = en (u + 1) := by rcases ch.2.2 with h | h; exact absurd h z; exact h
    refine br_f (fun y => ?_) ⟨vu, ?_⟩
    · rw [w3] at y
      have b1 := (T6 _ a5).1
      have := tr_inj T a5 f4 ((nI_eq (by omega) (by omega)).mp y)
      omega
    · rw [if_neg z] at hs
      rw [w3, ← hs]
      exact K
theorem xc_45 {post : Int32 → St2 → Prop} {u p s d f f2 : Nat} (hf : nd p = f) (hf2 : nd (s + d) = f2) {yx yy yw yh xc yc : Nat → Int32} (G : rl_G c nd en po w0 h0 f_root a_parent a_first a_second a_orientation a_share a_leastWidth a_leastHeight a_rectX a_rectY a_rectW a_rectH kd vl a_live) (F : cl_F c kd en u p s) (p8 : f < 8)
    (Pn : ∀ g, g < 8 → rl_p a_live a_rectX a_rectY a_rectW a_rectH a_screenWidth a_screenHeight yx yy yw yh a_cursorRow a_cursorCol a_regionTop a_regionBottom a_parserMode a_paramOne a_paramTwo a_paramIndex xc yc g)
    (d1 : s + d < en s) (d2 : kd (s + d) = 0) (d3 : ∀ t, t < d → kd (s + t) ≠ 0)
    (K : ∀ (root' : Int32) (pa' fi' se' ori' lw lh rx ry rw rh ord : Nat → Int32), rl_G (c - 2) (fun j => nd (cl_r u p j)) (fun j => cl_d u p (en (cl_r u p j))) (fun n => cl_d u p (po n)) w0 h0 root' pa' fi' se' ori' a_share lw lh rx ry rw rh (fun j => kd (cl_r u p j)) (fun j => vl (cl_r u p j)) (upd a_live f 0) →
      fi_F (upd a_live f 0) a_screenWidth a_screenHeight rw rh (fi_k a_screenWidth rw) (fi_k a_screenHeight rh) →
      post 1 (nI w0, nI h0, root', nI f2, f_liveCount - 1, pa', fi', se', ori', a_share, lw, lh, rx, ry, rw, rh, ord, upd a_live f 0, fi_A (upd a_live f 0) 8 rw a_screenWidth, fi_A (upd a_live f 0) 8 rh a_screenHeight, fi_A (upd a_live f 0) 8 (fi_r a_cursorRow rh) a_cursorRow, fi_A (upd a_live f 0) 8 (fi_r a_cursorCol rw) a_cursorCol, fi_A (upd a_live f 0) 8 (fi_t a_regionTop a_regionBottom rh) a_regionTop, fi_A (upd a_live f 0) 8 (fi_b a_regionBottom rh) a_regionBottom, a_parserMode, a_paramOne, a_paramTwo, a_paramIndex, ce_w (fi_S (upd a_live f 0) (fi_k a_screenWidth rw) (fi_k a_screenHeight rh) 8) a_cells)) :
    wX_close_45 post (nI (nd u)) (nI (nd s)) (nI w0) (nI h0) f_root (nI f) f_liveCount a_parent a_first a_second a_orientation a_share a_leastWidth a_leastHeight a_rectX a_rectY a_rectW a_rectH a_order a_live a_screenWidth a_screenHeight a_cursorRow a_cursorCol a_regionTop a_regionBottom a_parserMode a_paramOne a_paramTwo a_paramIndex a_cells := by
  subst hf hf2
  exact xw_45 G F p8 Pn d1 d2 d3 K
end TX
