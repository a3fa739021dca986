theorem rl_p_mv {lv xx xy xw xh sw sh yx yy yw yh R C T B M P1 P2 K xc yc R' C' T' B' M' P1' P2' K' xc' yc' : Nat → Int32} {g : Nat} (h : rl_p lv xx xy xw xh sw sh yx yy yw yh R C T B M P1 P2 K xc yc g)
    (e : R' g = R g ∧ C' g = C g ∧ T' g = T g ∧ B' g = B g ∧ M' g = M g ∧ P1' g = P1 g ∧ P2' g = P2 g ∧ K' g = K g) (ce : ∀ w h, ce_R (g * 288) w h xc yc → ce_R (g * 288) w h xc' yc') : rl_p lv xx xy xw xh sw sh yx yy yw yh R' C' T' B' M' P1' P2' K' xc' yc' g := by
  intro hl
  obtain ⟨a1, a2, a3, a4, a5, a6, w, hh, b1, b2, b3, b4, b5, b6, q, cr⟩ := h hl
  obtain ⟨e1, e2, e3, e4, e5, e6, e7, e8⟩ := e
  refine ⟨a1, a2, a3, a4, a5, a6, w, hh, b1, b2, b3, b4, b5, b6, ?_, ce w hh cr⟩
  unfold rl_q at q ⊢
  rw [e1, e2, e3, e4, e5, e6, e7, e8]
  exact q
/-- old sizes sw, sh, new sizes xw, xh, what is kept of them kw, kh -/
def fi_F (dv sw sh xw xh : Nat → Int32) (kw kh : Nat → Nat) : Prop := ∀ g, g < 8 → dv g ≠ 0 → ∃ ow oh nw nh : Nat, sw g = nI ow ∧ sh g = nI oh ∧ xw g = nI nw ∧ xh g = nI nh ∧ 1 ≤ nw ∧ nw ≤ 24 ∧ 1 ≤ nh ∧ nh ≤ 12 ∧ ow ≤ 24 ∧ oh ≤ 12 ∧ kw g = (if nw ≤ ow then nw else ow) ∧ kh g = (if nh ≤ oh then nh else oh)
def fi_k (a b : Nat → Int32) : Nat → Nat := fun g => if (b g).toNatClampNeg ≤ (a g).toNatClampNeg then (b g).toNatClampNeg else (a g).toNatClampNeg
theorem fi_kk {a b : Nat → Int32} {g o n : Nat} (h1 : a g = nI o) (h2 : b g = nI n) (ho : o ≤ 24) (hn : n ≤ 24) : fi_k a b g = if n ≤ o then n else o := by
  unfold fi_k
  rw [h1, h2, nI_clamp (by omega), nI_clamp (by omega)]
theorem fi_Fe {dv sw sh xw xh sw' sh' xw' xh' : Nat → Int32} {kw kh : Nat → Nat} (F : fi_F dv sw sh xw xh kw kh) (e : ∀ g, g < 8 → dv g ≠ 0 → sw' g = sw g ∧ sh' g = sh g ∧ xw' g = xw g ∧ xh' g = xh g) : fi_F dv sw' sh' xw' xh' kw kh := by
  intro g hg hd
  obtain ⟨e1, e2, e3, e4⟩ := e g hg hd
  rw [e1, e2, e3, e4]
  exact F g hg hd
/-- a pane that stays, after the layout and the fitting -/
theorem rl_re {dv lv lv' xx xy xw xh sw sh yx yy yw yh R C T B M P1 P2 K xc yc xx' xy' xw' xh' yx' yy' yw' yh' : Nat → Int32} {kw kh : Nat → Nat} {g : Nat} (hg : g < 8) (hd : dv g ≠ 0) (hl : lv g ≠ 0)
    (old : rl_p lv xx xy xw xh sw sh yx yy yw yh R C T B M P1 P2 K xc yc g) (F : fi_F dv sw sh xw' xh' kw kh) (e : yx' g = xx' g ∧ yy' g = xy' g ∧ yw' g = xw' g ∧ yh' g = xh' g) :
    rl_p lv' xx' xy' xw' xh' (fi_A dv 8 xw' sw) (fi_A dv 8 xh' sh) yx' yy' yw' yh' (fi_A dv 8 (fi_r R xh') R) (fi_A dv 8 (fi_r C xw') C) (fi_A dv 8 (fi_t T B xh') T) (fi_A dv 8 (fi_b B xh') B) M P1 P2 K (ce_w (fi_S dv kw kh 8) xc) (ce_w (fi_S dv kw kh 8) yc) g := by
  intro _
  obtain ⟨a1, a2, a3, a4, a5, a6, w, hh, b1, b2, b3, b4, b5, b6, q, cr⟩ := old hl
  obtain ⟨ow, oh, nw, nh, f1, f2, f3, f4, f5, f6, f7, f8, f9, f10, f11, f12⟩ := F g hg hd
  have ew : ow = w := by
    rw [a5, b1, nI_eq (by omega) (by omega)] at f1
    exact f1.symm
  have eh : oh = hh := by
    rw [a6, b2, nI_eq (by omega) (by omega)] at f2
    exact f2.symm
  subst ew eh
  refine ⟨e.1, e.2.1, e.2.2.1, e.2.2.2, fi_An hg hd, fi_An hg hd, nw, nh, f3, f4, f5, f6, f7, f8, rl_fit hg hd f3 f4 f5 f6 f7 f8 b4 b6 q, fi_R hg hd cr ?_ ?_⟩
  · rw [f11]; split <;> omega
  · rw [f12]; split <;> omega
/-- a new share at place b -/
theorem tr_share {c b s : Nat} {nd en po : Nat → Nat} {root : Int32} {pa fi se ori sh kd vl : Nat → Int32} (T : tr_T c nd en po root pa fi se ori sh kd vl) (hb : b < c) (hk : kd b ≠ 0) (s1 : 1 ≤ s) (s2 : s ≤ 99) : tr_T c nd en po root pa fi se ori (upd sh (nd b) (nI s)) kd (upd vl b (nI s)) := by
  obtain ⟨P, T2, T3, T4, T5, T6, T7⟩ := id T
  refine ⟨P, T2, T3, T4, ?_, ?_, T7⟩
  · intro i hi
    by_cases z : i = b
    · subst z
      rcases T5 i hi with h | h
      · exact absurd h hk
      · exact Or.inr ⟨h.1, s, s1, s2, pk_us⟩
    · rw [pk_un z]; exact T5 i hi
  · intro i hi
    obtain ⟨t1, t2, t3, t4, t5⟩ := T6 i hi
    refine ⟨t1, t2, t3, fun h => ?_, fun h => ?_⟩
    · have z : i ≠ b := fun e => hk (by rw [← e]; exact h)
      rw [pk_un z]; exact t4 h
    · obtain ⟨u1, u2, u3⟩ := t5 h
      refine ⟨u1, ?_, u3⟩
      by_cases z : i = b
      · subst z; rw [pk_us, pk_us]
      · rw [pk_un z, pk_un (fun e => z (tr_inj T hi hb e))]; exact u2
theorem rl_m0 {c : Nat} {kd sh : Nat → Int32} {nd en : Nat → Nat} {lw lh lw' lh' : Nat → Int32} {w0 : Nat} (P : ps_P c kd en) (K : la_K c kd sh) (L : la_L c kd nd en lw lh) (L' : la_L c kd nd en lw' lh') (m0 : ∀ a, lw (nd 0) = nI a → a ≤ 24 → a ≤ w0) : ∀ a, lw' (nd 0) = nI a → a ≤ 24 → a ≤ w0 := by
  intro a e
  rw [(la_un P K L L' 0 P.1).1] at e
  exact m0 a e
theorem rl_n0 {c : Nat} {kd sh : Nat → Int32} {nd en : Nat → Nat} {lw lh lw' lh' : Nat → Int32} {w0 : Nat} (P : ps_P c kd en) (K : la_K c kd sh) (L : la_L c kd nd en lw lh) (L' : la_L c kd nd en lw' lh') (m0 : ∀ a, lh (nd 0) = nI a → a ≤ 24 → a ≤ w0) : ∀ a, lh' (nd 0) = nI a → a ≤ 24 → a ≤ w0 := by
  intro a e
  rw [(la_un P K L L' 0 P.1).2] at e
  exact m0 a e
theorem rl_ex {x : Int32} {w0 : Nat} (h : ∃ a, x = nI a ∧ a ≤ w0) (hw : w0 ≤ 24) : ∀ a, x = nI a → a ≤ 24 → a ≤ w0 := by
  obtain ⟨b, e, hb⟩ := h
  intro a e' ha
  rw [e, nI_eq (by omega) (by omega)] at e'
  omega
