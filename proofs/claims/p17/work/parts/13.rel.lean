theorem nr_b0 : vp_nar .boolean 0 = 0 := by decide
theorem nr_b1 : vp_nar .boolean 1 = 1 := by decide
theorem nr_c {n : Nat} (h : n < 65536) : vp_nar .char (nI n) = nI n := Value.int.inj (pk_charN h).1
theorem nr_32 : vp_nar .char 32 = 32 := nr_c (n := 32) (by omega)
/-- the screen at B holds chars -/
def ce_H (B : Nat) (a : Nat → Int32) : Prop := ∀ j, B ≤ j → j < B + 288 → ∃ n, n < 65536 ∧ a j = nI n
theorem ce_Hx {B w h : Nat} {x y : Nat → Int32} (R : ce_R B w h x y) : ce_H B x := fun j h1 h2 => (R j h1 h2).2.1
theorem ce_Hy {B w h : Nat} {x y : Nat → Int32} (R : ce_R B w h x y) : ce_H B y := fun j h1 h2 => by
  obtain ⟨e, n, _⟩ := R j h1 h2
  rw [← e]
  exact n
theorem ce_Hc {B t b : Nat} {a : Nat → Int32} (hb : b < 12) (H : ce_H B a) : ce_H B (ce_c (B + t * 24) (B + b * 24) a) := by
  intro j h1 h2
  unfold ce_c
  by_cases z : B + b * 24 ≤ j ∧ j < B + b * 24 + 24
  · rw [ce_wt z]; exact ⟨32, by omega, rfl⟩
  · rw [ce_wf z]
    unfold ce_m
    by_cases q : B + t * 24 ≤ j ∧ j < B + b * 24
    · rw [if_pos q]; exact H (j + 24) (by omega) (by omega)
    · rw [if_neg q]; exact H j h1 h2
theorem ce_Hn {B t b : Nat} {a : Nat → Int32} (hb : b < 12) (H : ce_H B a) : ∀ n, ce_H B (ce_n (B + t * 24) (B + b * 24) n a)
  | 0 => H
  | n + 1 => ce_Hc hb (ce_Hn hb H n)
theorem cg_8 {g : Nat} (h : g < 8) : (nI g).toNatClampNeg = g := nI_clamp (by omega)
theorem cg_15 {g : Nat} (h : g < 15) : (nI g).toNatClampNeg = g := nI_clamp (by omega)
theorem cg_16 {g : Nat} (h : g < 16) : (nI g).toNatClampNeg = g := nI_clamp (by omega)
theorem vi_8 {g : Nat} (h : g < 8) : vp_in (nI g) 8 := vp_in_nI h (by omega)
theorem vi_15 {g : Nat} (h : g < 15) : vp_in (nI g) 15 := vp_in_nI h (by omega)
theorem vi_16 {g : Nat} (h : g < 16) : vp_in (nI g) 16 := vp_in_nI h (by omega)
theorem pk_uu {f : Nat → Int32} {k : Nat} : upd f k (f k) = f := by
  funext j
  by_cases z : j = k
  · subst z; rw [pk_us]
  · rw [pk_un z]
def fi_r (R rh : Nat → Int32) : Nat → Int32 := fun g => la_mn (R g) (rh g - 1)
def fi_t (T B rh : Nat → Int32) : Nat → Int32 := fun g => if rh g - 1 < B g then 0 else T g
def fi_b (B rh : Nat → Int32) : Nat → Int32 := fun g => if rh g - 1 < B g then rh g - 1 else B g
/-- the ranges of what pane g keeps beside its screen -/
def rl_q (w h : Nat) (R C T B M P1 P2 K : Nat → Int32) (g : Nat) : Prop := ∃ r q t b m a d k : Nat, R g = nI r ∧ r < h ∧ C g = nI q ∧ q < w ∧ T g = nI t ∧ B g = nI b ∧ t ≤ b ∧ b < h ∧ M g = nI m ∧ m ≤ 2 ∧ P1 g = nI a ∧ a ≤ 99 ∧ P2 g = nI d ∧ d ≤ 99 ∧ K g = nI k ∧ k ≤ 2
theorem rl_fit {dv R C T B M P1 P2 K rw rh : Nat → Int32} {g ow oh nw nh : Nat} (hg : g < 8) (hd : dv g ≠ 0) (h1 : rw g = nI nw) (h2 : rh g = nI nh) (w1 : 1 ≤ nw) (w2 : nw ≤ 24) (w3 : 1 ≤ nh) (w4 : nh ≤ 12) (ow4 : ow ≤ 24) (oh4 : oh ≤ 12) (Q : rl_q ow oh R C T B M P1 P2 K g) :
    rl_q nw nh (fi_A dv 8 (fi_r R rh) R) (fi_A dv 8 (fi_r C rw) C) (fi_A dv 8 (fi_t T B rh) T) (fi_A dv 8 (fi_b B rh) B) M P1 P2 K g := by
  obtain ⟨r, q, t, b, m, a, d, k, e1, e2, e3, e4, e5, e6, e7, e8, e9, e10, e11, e12, e13, e14, e15, e16⟩ := Q
  have n1 : fi_A dv 8 (fi_r R rh) R g = nI (if nh - 1 ≤ r then nh - 1 else r) := by
    rw [fi_An hg hd]
    unfold fi_r
    rw [e1, h2, la_sub1 w3, la_mnN (by omega) (by omega)]
  have n2 : fi_A dv 8 (fi_r C rw) C g = nI (if nw - 1 ≤ q then nw - 1 else q) := by
    rw [fi_An hg hd]
    unfold fi_r
    rw [e3, h1, la_sub1 w1, la_mnN (by omega) (by omega)]
  have n3 : fi_A dv 8 (fi_t T B rh) T g = nI (if nh - 1 < b then 0 else t) := by
    rw [fi_An hg hd]
    unfold fi_t
    rw [e5, e6, h2, la_sub1 w3]
    by_cases z : nh - 1 < b
    · rw [if_pos z, if_pos ((nI_ltI (by omega) (by omega)).mpr z)]; rfl
    · rw [if_neg z, if_neg (fun y => z ((nI_ltI (by omega) (by omega)).mp y))]
  have n4 : fi_A dv 8 (fi_b B rh) B g = nI (if nh - 1 < b then nh - 1 else b) := by
    rw [fi_An hg hd]
    unfold fi_b
    rw [e6, h2, la_sub1 w3]
    by_cases z : nh - 1 < b
    · rw [if_pos z, if_pos ((nI_ltI (by omega) (by omega)).mpr z)]
    · rw [if_neg z, if_neg (fun y => z ((nI_ltI (by omega) (by omega)).mp y))]
  refine ⟨_, _, _, _, m, a, d, k, n1, ?_, n2, ?_, n3, n4, ?_, ?_, e9, e10, e11, e12, e13, e14, e15, e16⟩
  · split <;> omega
  · split <;> omega
  · split <;> omega
  · split <;> omega
/-- tree, layout and flags -/
def rl_G (c : Nat) (nd en po : Nat → Nat) (w0 h0 : Nat) (root : Int32) (pa fi se ori sh lw lh rx ry rw rh kd vl lv : Nat → Int32) : Prop :=
  tr_T c nd en po root pa fi se ori sh kd vl ∧ la_L c kd nd en lw lh ∧ la_E c kd vl nd en lw lh rx ry rw rh (nI w0) (nI h0) ∧ 8 ≤ w0 ∧ w0 ≤ 24 ∧ 4 ≤ h0 ∧ h0 ≤ 12 ∧ (∀ a, lw (nd 0) = nI a → a ≤ 24 → a ≤ w0) ∧ (∀ a, lh (nd 0) = nI a → a ≤ 24 → a ≤ h0) ∧ lv_R c nd lv
theorem rl_nat {c : Nat} {nd en po : Nat → Nat} {w0 h0 : Nat} {root : Int32} {pa fi se ori sh lw lh rx ry rw rh kd vl lv : Nat → Int32} (G : rl_G c nd en po w0 h0 root pa fi se ori sh lw lh rx ry rw rh kd vl lv) : ∃ X Y W H mw mh, la_N c nd lw lh rx ry rw rh w0 h0 X Y W H mw mh ∧ ge_G c kd en X Y W H := by
  obtain ⟨T, L, E, g1, g2, g3, g4, g5, g6, g7⟩ := G
  exact la_nat T.1 T.2.2.2.2.1 T.2.1 L E g2 g4 g5 g6
theorem rl_sz {c : Nat} {nd en po : Nat → Nat} {w0 h0 : Nat} {root : Int32} {pa fi se ori sh lw lh rx ry rw rh kd vl lv : Nat → Int32} (G : rl_G c nd en po w0 h0 root pa fi se ori sh lw lh rx ry rw rh kd vl lv) {g : Nat} (hg : g < 8) (hl : lv g ≠ 0) : ∃ x y w h, rx g = nI x ∧ ry g = nI y ∧ rw g = nI w ∧ rh g = nI h ∧ 1 ≤ w ∧ w ≤ 24 ∧ 1 ≤ h ∧ h ≤ 12 ∧ x + w ≤ w0 ∧ y + h ≤ h0 := by
  obtain ⟨X, Y, W, H, mw, mh, N, _⟩ := rl_nat G
  obtain ⟨T, L, E, g1, g2, g3, g4, g5, g6, g7⟩ := G
  obtain ⟨i, hi, e⟩ := (g7 g hg).2.mp hl
  subst e
  obtain ⟨n1, n2, n3, n4, n5, n6, n7, n8, n9, n10, n11, n12⟩ := N i hi
  exact ⟨_, _, _, _, n3, n4, n5, n6, by omega, by omega, by omega, by omega, n11, n12⟩
/-- pane g: the two sides keep the same -/
def rl_p (lv xx xy xw xh sw sh yx yy yw yh R C T B M P1 P2 K xc yc : Nat → Int32) (g : Nat) : Prop :=
  lv g ≠ 0 → yx g = xx g ∧ yy g = xy g ∧ yw g = xw g ∧ yh g = xh g ∧ sw g = xw g ∧ sh g = xh g ∧ ∃ w h, xw g = nI w ∧ xh g = nI h ∧ 1 ≤ w ∧ w ≤ 24 ∧ 1 ≤ h ∧ h ≤ 12 ∧ rl_q w h R C T B M P1 P2 K g ∧ ce_R (g * 288) w h xc yc
