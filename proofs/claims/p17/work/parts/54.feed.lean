theorem ce_Hp {B k n : Nat} {a : Nat → Int32} (H : ce_H B a) (hn : n < 65536) : ce_H B (upd a k (nI n)) := by
  intro j h1 h2
  by_cases z : j = k
  · subst z; rw [pk_us]; exact ⟨n, hn, rfl⟩
  · rw [pk_un z]; exact H j h1 h2
/-- what feeding makes of pane g: the same for every object that keeps the same for it -/
def fo_C (R C T B M P1 P2 K : Nat → Int32) (g w h : Nat) (v2 : Int32) : Prop :=
  ∃ (R' C' T' B' M' P1' P2' K' : Nat → Int32) (fx : (Nat → Int32) → (Nat → Int32)), (∀ i, i ≠ g → R' i = R i ∧ C' i = C i ∧ T' i = T i ∧ B' i = B i ∧ M' i = M i ∧ P1' i = P1 i ∧ P2' i = P2 i ∧ K' i = K i) ∧ rl_q w h R' C' T' B' M' P1' P2' K' g ∧
    (∀ x y, ce_R (g * 288) w h x y → ce_R (g * 288) w h (fx x) (fx y)) ∧ (∀ x, ce_O (g * 288) x (fx x)) ∧
    ∀ (f_hostWidth f_hostHeight f_root f_focusedPane f_liveCount : Int32) (a_parent a_first a_second a_orientation a_share a_leastWidth a_leastHeight a_rectX a_rectY a_rectW a_rectH a_order a_live a_screenWidth a_screenHeight a_cursorRow a_cursorCol a_regionTop a_regionBottom a_parserMode a_paramOne a_paramTwo a_paramIndex a_cells : Nat → Int32), a_live g ≠ 0 → a_screenWidth g = nI w → a_screenHeight g = nI h → ce_H (g * 288) a_cells → ∀ post : Int32 → St2 → Prop, post 1 (f_hostWidth, f_hostHeight, f_root, f_focusedPane, f_liveCount, a_parent, a_first, a_second, a_orientation, a_share, a_leastWidth, a_leastHeight, a_rectX, a_rectY, a_rectW, a_rectH, a_order, a_live, a_screenWidth, a_screenHeight, R', C', T', B', M', P1', P2', K', fx a_cells) → wpX_feed post (f_hostWidth, f_hostHeight, f_root, f_focusedPane, f_liveCount, a_parent, a_first, a_second, a_orientation, a_share, a_leastWidth, a_leastHeight, a_rectX, a_rectY, a_rectW, a_rectH, a_order, a_live, a_screenWidth, a_screenHeight, R, C, T, B, M, P1, P2, K, a_cells) (nI g) v2
section FO
variable {R C T B M P1 P2 K : Nat → Int32} {g w h r q t b m a d kk v : Nat} {v2 : Int32}
/-- a transformer that leaves the cells -/
theorem fo_id {B w h : Nat} : (∀ x y, ce_R B w h x y → ce_R B w h (id x) (id y)) ∧ (∀ x, ce_O B x (id x)) := ⟨fun _ _ z => z, fun _ _ _ => rfl⟩
theorem fo_pr (hg : g < 8) (w4 : w ≤ 24) (h4 : h ≤ 12) (e1 : R g = nI r) (e2 : r < h) (e3 : C g = nI q) (e4 : q < w) (e5 : T g = nI t) (e6 : B g = nI b) (e7 : t ≤ b) (e8 : b < h) (e9 : M g = nI 0) (e11 : P1 g = nI a) (e12 : a ≤ 99) (e13 : P2 g = nI d) (e14 : d ≤ 99) (e15 : K g = nI kk) (e16 : kk ≤ 2) (ev : v2 &&& 255 = nI v) (h32 : 32 ≤ v) (h126 : v ≤ 126) : fo_C R C T B M P1 P2 K g w h v2 := by
  have uu : ∀ (A : Nat → Int32) (x y : Int32) (i : Nat), i ≠ g → upd (upd A g x) g y i = A i := fun A x y i hi => by rw [pk_un hi, pk_un hi]
  have px : ∀ x y, ce_R (g * 288) w h x y → ce_R (g * 288) w h (upd x (g * 288 + r * 24 + q) (nI v)) (upd y (g * 288 + r * 24 + q) (nI v)) := fun x y cr => ce_Rp cr (by omega) (by omega) (by omega) (by omega)
  have po : ∀ x, ce_O (g * 288) x (upd x (g * 288 + r * 24 + q) (nI v)) := fun x => ce_Op (by omega) (by omega)
  by_cases z : q + 1 = w
  · by_cases z1 : r = b
    · refine ⟨R, upd (upd C g (nI (q + 1))) g 0, T, B, M, P1, P2, K, (fun x => ce_n (g * 288 + t * 24) (g * 288 + b * 24) 1 (upd x (g * 288 + r * 24 + q) (nI v))), (fun i hi => ⟨rfl, uu _ _ _ i hi, rfl, rfl, rfl, rfl, rfl, rfl⟩), ⟨r, 0, t, b, 0, a, d, kk, e1, e2, pk_us, by omega, e5, e6, e7, e8, e9, by omega, e11, e12, e13, e14, e15, e16⟩, (fun x y cr => ce_Rn (by omega) e8 1 (px x y cr)), (fun x j hj => (ce_On (by omega) 1 j hj).trans (po x j hj)), ?_⟩
      intro f_hostWidth f_hostHeight f_root f_focusedPane f_liveCount a_parent a_first a_second a_orientation a_share a_leastWidth a_leastHeight a_rectX a_rectY a_rectW a_rectH a_order a_live a_screenWidth a_screenHeight a_cursorRow a_cursorCol a_regionTop a_regionBottom a_parserMode a_paramOne a_paramTwo a_paramIndex a_cells hl s1 s2 H post KK
      exact xw_feed hg hl ev e9 (by omega) (fun _ => br_f (nI_nlt (b := 32) h32 (by omega)) (br_f (nI_nlt (a := 126) h126 (by omega)) (xw_print (h := h) (w := w) hg e5 e6 e7 (by omega) e1 e2 h4 s2 e3 e4 w4 s1 (by omega) (ce_Hp H (by omega)) (fun y => absurd z y) (fun _ _ => KK) (fun _ y => absurd z1 y) (fun _ y => absurd z1 y)))) (fun y => by omega) (fun y => by omega)
    · by_cases z2 : h - 1 ≤ r
      · refine ⟨R, upd (upd C g (nI (q + 1))) g 0, T, B, M, P1, P2, K, (fun x => upd x (g * 288 + r * 24 + q) (nI v)), (fun i hi => ⟨rfl, uu _ _ _ i hi, rfl, rfl, rfl, rfl, rfl, rfl⟩), ⟨r, 0, t, b, 0, a, d, kk, e1, e2, pk_us, by omega, e5, e6, e7, e8, e9, by omega, e11, e12, e13, e14, e15, e16⟩, px, po, ?_⟩
        intro f_hostWidth f_hostHeight f_root f_focusedPane f_liveCount a_parent a_first a_second a_orientation a_share a_leastWidth a_leastHeight a_rectX a_rectY a_rectW a_rectH a_order a_live a_screenWidth a_screenHeight a_cursorRow a_cursorCol a_regionTop a_regionBottom a_parserMode a_paramOne a_paramTwo a_paramIndex a_cells hl s1 s2 H post KK
        exact xw_feed hg hl ev e9 (by omega) (fun _ => br_f (nI_nlt (b := 32) h32 (by omega)) (br_f (nI_nlt (a := 126) h126 (by omega)) (xw_print (h := h) (w := w) hg e5 e6 e7 (by omega) e1 e2 h4 s2 e3 e4 w4 s1 (by omega) (ce_Hp H (by omega)) (fun y => absurd z y) (fun _ y => absurd y z1) (fun _ _ _ => KK) (fun _ _ y => by omega)))) (fun y => by omega) (fun y => by omega)
      · refine ⟨upd R g (nI (r + 1)), upd (upd C g (nI (q + 1))) g 0, T, B, M, P1, P2, K, (fun x => upd x (g * 288 + r * 24 + q) (nI v)), (fun i hi => ⟨pk_un hi, uu _ _ _ i hi, rfl, rfl, rfl, rfl, rfl, rfl⟩), ⟨r + 1, 0, t, b, 0, a, d, kk, pk_us, by omega, pk_us, by omega, e5, e6, e7, e8, e9, by omega, e11, e12, e13, e14, e15, e16⟩, px, po, ?_⟩
        intro f_hostWidth f_hostHeight f_root f_focusedPane f_liveCount a_parent a_first a_second a_orientation a_share a_leastWidth a_leastHeight a_rectX a_rectY a_rectW a_rectH a_order a_live a_screenWidth a_screenHeight a_cursorRow a_cursorCol a_regionTop a_regionBottom a_parserMode a_paramOne a_paramTwo a_paramIndex a_cells hl s1 s2 H post KK
        exact xw_feed hg hl ev e9 (by omega) (fun _ => br_f (nI_nlt (b := 32) h32 (by omega)) (br_f (nI_nlt (a := 126) h126 (by omega)) (xw_print (h := h) (w := w) hg e5 e6 e7 (by omega) e1 e2 h4 s2 e3 e4 w4 s1 (by omega) (ce_Hp H (by omega)) (fun y => absurd z y) (fun _ y => absurd y z1) (fun _ _ y => by omega) (fun _ _ _ => KK)))) (fun y => by omega) (fun y => by omega)
  · refine ⟨R, upd C g (nI (q + 1)), T, B, M, P1, P2, K, (fun x => upd x (g * 288 + r * 24 + q) (nI v)), (fun i hi => ⟨rfl, pk_un hi, rfl, rfl, rfl, rfl, rfl, rfl⟩), ⟨r, q + 1, t, b, 0, a, d, kk, e1, e2, pk_us, by omega, e5, e6, e7, e8, e9, by omega, e11, e12, e13, e14, e15, e16⟩, px, po, ?_⟩
    intro f_hostWidth f_hostHeight f_root f_focusedPane f_liveCount a_parent a_first a_second a_orientation a_share a_leastWidth a_leastHeight a_rectX a_rectY a_rectW a_rectH a_order a_live a_screenWidth a_screenHeight a_cursorRow a_cursorCol a_regionTop a_regionBottom a_parserMode a_paramOne a_paramTwo a_paramIndex a_cells hl s1 s2 H post KK
    exact xw_feed hg hl ev e9 (by omega) (fun _ => br_f (nI_nlt (b := 32) h32 (by omega)) (br_f (nI_nlt (a := 126) h126 (by omega)) (xw_print (h := h) (w := w) hg e5 e6 e7 (by omega) e1 e2 h4 s2 e3 e4 w4 s1 (by omega) (ce_Hp H (by omega)) (fun _ => KK) (fun y => absurd y z) (fun y => absurd y z) (fun y => absurd y z)))) (fun y => by omega) (fun y => by omega)
theorem fo_ct (hg : g < 8) (w4 : w ≤ 24) (h4 : h ≤ 12) (e1 : R g = nI r) (e2 : r < h) (e3 : C g = nI q) (e4 : q < w) (e5 : T g = nI t) (e6 : B g = nI b) (e7 : t ≤ b) (e8 : b < h) (e9 : M g = nI 0) (e11 : P1 g = nI a) (e12 : a ≤ 99) (e13 : P2 g = nI d) (e14 : d ≤ 99) (e15 : K g = nI kk) (e16 : kk ≤ 2) (ev : v2 &&& 255 = nI v) (hv : v < 256) (hc : v < 32 ∨ 126 < v) : fo_C R C T B M P1 P2 K g w h v2 := by
  have v8 := vi_8 hg
  have e := cg_8 hg
  have G21 : ∀ (f_hostWidth f_hostHeight f_root f_focusedPane f_liveCount : Int32) (a_parent a_first a_second a_orientation a_share a_leastWidth a_leastHeight a_rectX a_rectY a_rectW a_rectH a_order a_live a_screenWidth a_screenHeight a_cursorRow a_cursorCol a_regionTop a_regionBottom a_parserMode a_paramOne a_paramTwo a_paramIndex a_cells : Nat → Int32) (post : St2 → Prop), wX_feedGround_21 post (nI g) (nI v) f_hostWidth f_hostHeight f_root f_focusedPane f_liveCount a_parent a_first a_second a_orientation a_share a_leastWidth a_leastHeight a_rectX a_rectY a_rectW a_rectH a_order a_live a_screenWidth a_screenHeight R C T B M P1 P2 K a_cells → wpX_feedGround post (f_hostWidth, f_hostHeight, f_root, f_focusedPane, f_liveCount, a_parent, a_first, a_second, a_orientation, a_share, a_leastWidth, a_leastHeight, a_rectX, a_rectY, a_rectW, a_rectH, a_order, a_live, a_screenWidth, a_screenHeight, R, C, T, B, M, P1, P2, K, a_cells) (nI g) (nI v) := by
    intro f_hostWidth f_hostHeight f_root f_focusedPane f_liveCount a_parent a_first a_second a_orientation a_share a_leastWidth a_leastHeight a_rectX a_rectY a_rectW a_rectH a_order a_live a_screenWidth a_screenHeight a_cursorRow a_cursorCol a_regionTop a_regionBottom a_parserMode a_paramOne a_paramTwo a_paramIndex a_cells post KK
    by_cases z : v < 32
    · exact br_t (nI_lt (b := 32) z (by omega)) KK
    · exact br_f (nI_nlt (b := 32) (by omega) (by omega)) (br_t (nI_lt (a := 126) (by omega) (by omega)) KK)
  by_cases z10 : v = 10
  · subst z10
    by_cases z1 : r = b
    · refine ⟨R, C, T, B, M, P1, P2, K, (fun x => ce_n (g * 288 + t * 24) (g * 288 + b * 24) 1 x), (fun i hi => ⟨rfl, rfl, rfl, rfl, rfl, rfl, rfl, rfl⟩), ⟨r, q, t, b, 0, a, d, kk, e1, e2, e3, e4, e5, e6, e7, e8, e9, by omega, e11, e12, e13, e14, e15, e16⟩, (fun x y cr => ce_Rn (by omega) e8 1 cr), (fun x => ce_On (by omega) 1), ?_⟩
      intro f_hostWidth f_hostHeight f_root f_focusedPane f_liveCount a_parent a_first a_second a_orientation a_share a_leastWidth a_leastHeight a_rectX a_rectY a_rectW a_rectH a_order a_live a_screenWidth a_screenHeight a_cursorRow a_cursorCol a_regionTop a_regionBottom a_parserMode a_paramOne a_paramTwo a_paramIndex a_cells hl s1 s2 H post KK
      exact xw_feed hg hl ev e9 (by omega) (fun _ => G21 _ _ _ _ _ _ _ _ _ _ _ _ _ _ _ _ _ _ _ _ _ _ _ _ _ _ _ _ _ _ (br_t rfl (xw_lineFeed (h := h) hg e5 e6 e7 (by omega) e1 e2 h4 s2 H (fun _ => KK) (fun y => absurd z1 y) (fun y => absurd z1 y)))) (fun y => by omega) (fun y => by omega)
    · by_cases z2 : h - 1 ≤ r
      · refine ⟨R, C, T, B, M, P1, P2, K, id, (fun i hi => ⟨rfl, rfl, rfl, rfl, rfl, rfl, rfl, rfl⟩), ⟨r, q, t, b, 0, a, d, kk, e1, e2, e3, e4, e5, e6, e7, e8, e9, by omega, e11, e12, e13, e14, e15, e16⟩, fo_id.1, fo_id.2, ?_⟩
        intro f_hostWidth f_hostHeight f_root f_focusedPane f_liveCount a_parent a_first a_second a_orientation a_share a_leastWidth a_leastHeight a_rectX a_rectY a_rectW a_rectH a_order a_live a_screenWidth a_screenHeight a_cursorRow a_cursorCol a_regionTop a_regionBottom a_parserMode a_paramOne a_paramTwo a_paramIndex a_cells hl s1 s2 H post KK
        exact xw_feed hg hl ev e9 (by omega) (fun _ => G21 _ _ _ _ _ _ _ _ _ _ _ _ _ _ _ _ _ _ _ _ _ _ _ _ _ _ _ _ _ _ (br_t rfl (xw_lineFeed (h := h) hg e5 e6 e7 (by omega) e1 e2 h4 s2 H (fun y => absurd y z1) (fun _ _ => KK) (fun _ y => by omega)))) (fun y => by omega) (fun y => by omega)
      · refine ⟨upd R g (nI (r + 1)), C, T, B, M, P1, P2, K, id, (fun i hi => ⟨pk_un hi, rfl, rfl, rfl, rfl, rfl, rfl, rfl⟩), ⟨r + 1, q, t, b, 0, a, d, kk, pk_us, by omega, e3, e4, e5, e6, e7, e8, e9, by omega, e11, e12, e13, e14, e15, e16⟩, fo_id.1, fo_id.2, ?_⟩
        intro f_hostWidth f_hostHeight f_root f_focusedPane f_liveCount a_parent a_first a_second a_orientation a_share a_leastWidth a_leastHeight a_rectX a_rectY a_rectW a_rectH a_order a_live a_screenWidth a_screenHeight a_cursorRow a_cursorCol a_regionTop a_regionBottom a_parserMode a_paramOne a_paramTwo a_paramIndex a_cells hl s1 s2 H post KK
        exact xw_feed hg hl ev e9 (by omega) (fun _ => G21 _ _ _ _ _ _ _ _ _ _ _ _ _ _ _ _ _ _ _ _ _ _ _ _ _ _ _ _ _ _ (br_t rfl (xw_lineFeed (h := h) hg e5 e6 e7 (by omega) e1 e2 h4 s2 H (fun y => absurd y z1) (fun _ y => by omega) (fun _ _ => KK)))) (fun y => by omega) (fun y => by omega)
  have n10 : ¬ nI v = 10 := fun y => z10 ((nI_eq (b := 10) (by omega) (by omega)).mp y)
  by_cases z13 : v = 13
  · subst z13
    refine ⟨R, upd C g 0, T, B, M, P1, P2, K, id, (fun i hi => ⟨rfl, pk_un hi, rfl, rfl, rfl, rfl, rfl, rfl⟩), ⟨r, 0, t, b, 0, a, d, kk, e1, e2, pk_us, by omega, e5, e6, e7, e8, e9, by omega, e11, e12, e13, e14, e15, e16⟩, fo_id.1, fo_id.2, ?_⟩
    intro f_hostWidth f_hostHeight f_root f_focusedPane f_liveCount a_parent a_first a_second a_orientation a_share a_leastWidth a_leastHeight a_rectX a_rectY a_rectW a_rectH a_order a_live a_screenWidth a_screenHeight a_cursorRow a_cursorCol a_regionTop a_regionBottom a_parserMode a_paramOne a_paramTwo a_paramIndex a_cells hl s1 s2 H post KK
    exact xw_feed hg hl ev e9 (by omega) (fun _ => G21 _ _ _ _ _ _ _ _ _ _ _ _ _ _ _ _ _ _ _ _ _ _ _ _ _ _ _ _ _ _ (br_f n10 (br_t rfl ⟨v8, nm_r (e' := upd C g 0) (by rw [e]) KK⟩))) (fun y => by omega) (fun y => by omega)
  have n13 : ¬ nI v = 13 := fun y => z13 ((nI_eq (b := 13) (by omega) (by omega)).mp y)
  by_cases z8 : v = 8
  · subst z8
    cases q with
    | zero =>
      refine ⟨R, C, T, B, M, P1, P2, K, id, (fun i hi => ⟨rfl, rfl, rfl, rfl, rfl, rfl, rfl, rfl⟩), ⟨r, 0, t, b, 0, a, d, kk, e1, e2, e3, e4, e5, e6, e7, e8, e9, by omega, e11, e12, e13, e14, e15, e16⟩, fo_id.1, fo_id.2, ?_⟩
      intro f_hostWidth f_hostHeight f_root f_focusedPane f_liveCount a_parent a_first a_second a_orientation a_share a_leastWidth a_leastHeight a_rectX a_rectY a_rectW a_rectH a_order a_live a_screenWidth a_screenHeight a_cursorRow a_cursorCol a_regionTop a_regionBottom a_parserMode a_paramOne a_paramTwo a_paramIndex a_cells hl s1 s2 H post KK
      exact xw_feed hg hl ev e9 (by omega) (fun _ => G21 _ _ _ _ _ _ _ _ _ _ _ _ _ _ _ _ _ _ _ _ _ _ _ _ _ _ _ _ _ _ (br_f n10 (br_f n13 (br_t rfl ⟨v8, xw_larger ⟨v8, nm_r (e' := C) (by rw [e, e3, show la_mx 0 (nI 0 - 1) = nI 0 from by decide, ← e3, pk_uu]) KK⟩⟩)))) (fun y => by omega) (fun y => by omega)
    | succ q =>
      have e0 : la_mx 0 (nI q) = nI q := by
        have := la_mxN (a := 0) (b := q) (by omega) (by omega)
        rw [if_pos (Nat.zero_le _)] at this
        exact this
      refine ⟨R, upd C g (nI q), T, B, M, P1, P2, K, id, (fun i hi => ⟨rfl, pk_un hi, rfl, rfl, rfl, rfl, rfl, rfl⟩), ⟨r, q, t, b, 0, a, d, kk, e1, e2, pk_us, by omega, e5, e6, e7, e8, e9, by omega, e11, e12, e13, e14, e15, e16⟩, fo_id.1, fo_id.2, ?_⟩
      intro f_hostWidth f_hostHeight f_root f_focusedPane f_liveCount a_parent a_first a_second a_orientation a_share a_leastWidth a_leastHeight a_rectX a_rectY a_rectW a_rectH a_order a_live a_screenWidth a_screenHeight a_cursorRow a_cursorCol a_regionTop a_regionBottom a_parserMode a_paramOne a_paramTwo a_paramIndex a_cells hl s1 s2 H post KK
      exact xw_feed hg hl ev e9 (by omega) (fun _ => G21 _ _ _ _ _ _ _ _ _ _ _ _ _ _ _ _ _ _ _ _ _ _ _ _ _ _ _ _ _ _ (br_f n10 (br_f n13 (br_t rfl ⟨v8, xw_larger ⟨v8, nm_r (e' := upd C g (nI q)) (by rw [e, e3, nI_pred, e0]) KK⟩⟩)))) (fun y => by omega) (fun y => by omega)
  have n8 : ¬ nI v = 8 := fun y => z8 ((nI_eq (b := 8) (by omega) (by omega)).mp y)
  by_cases z27 : v = 27
  · subst z27
    refine ⟨R, C, T, B, upd M g 1, P1, P2, K, id, (fun i hi => ⟨rfl, rfl, rfl, rfl, pk_un hi, rfl, rfl, rfl⟩), ⟨r, q, t, b, 1, a, d, kk, e1, e2, e3, e4, e5, e6, e7, e8, pk_us, by omega, e11, e12, e13, e14, e15, e16⟩, fo_id.1, fo_id.2, ?_⟩
    intro f_hostWidth f_hostHeight f_root f_focusedPane f_liveCount a_parent a_first a_second a_orientation a_share a_leastWidth a_leastHeight a_rectX a_rectY a_rectW a_rectH a_order a_live a_screenWidth a_screenHeight a_cursorRow a_cursorCol a_regionTop a_regionBottom a_parserMode a_paramOne a_paramTwo a_paramIndex a_cells hl s1 s2 H post KK
    exact xw_feed hg hl ev e9 (by omega) (fun _ => G21 _ _ _ _ _ _ _ _ _ _ _ _ _ _ _ _ _ _ _ _ _ _ _ _ _ _ _ _ _ _ (br_f n10 (br_f n13 (br_f n8 (br_t rfl ⟨v8, nm_r (e' := upd M g 1) (by rw [e]) KK⟩))))) (fun y => by omega) (fun y => by omega)
  have n27 : ¬ nI v = 27 := fun y => z27 ((nI_eq (b := 27) (by omega) (by omega)).mp y)
  refine ⟨R, C, T, B, M, P1, P2, K, id, (fun i hi => ⟨rfl, rfl, rfl, rfl, rfl, rfl, rfl, rfl⟩), ⟨r, q, t, b, 0, a, d, kk, e1, e2, e3, e4, e5, e6, e7, e8, e9, by omega, e11, e12, e13, e14, e15, e16⟩, fo_id.1, fo_id.2, ?_⟩
  intro f_hostWidth f_hostHeight f_root f_focusedPane f_liveCount a_parent a_first a_second a_orientation a_share a_leastWidth a_leastHeight a_rectX a_rectY a_rectW a_rectH a_order a_live a_screenWidth a_screenHeight a_cursorRow a_cursorCol a_regionTop a_regionBottom a_parserMode a_paramOne a_paramTwo a_paramIndex a_cells hl s1 s2 H post KK
  exact xw_feed hg hl ev e9 (by omega) (fun _ => G21 _ _ _ _ _ _ _ _ _ _ _ _ _ _ _ _ _ _ _ _ _ _ _ _ _ _ _ _ _ _ (br_f n10 (br_f n13 (br_f n8 (br_f n27 KK))))) (fun y => by omega) (fun y => by omega)
theorem fo_1 (hg : g < 8) (w4 : w ≤ 24) (h4 : h ≤ 12) (e1 : R g = nI r) (e2 : r < h) (e3 : C g = nI q) (e4 : q < w) (e5 : T g = nI t) (e6 : B g = nI b) (e7 : t ≤ b) (e8 : b < h) (e9 : M g = nI 1) (e11 : P1 g = nI a) (e12 : a ≤ 99) (e13 : P2 g = nI d) (e14 : d ≤ 99) (e15 : K g = nI kk) (e16 : kk ≤ 2) (ev : v2 &&& 255 = nI v) (hv : v < 256) : fo_C R C T B M P1 P2 K g w h v2 := by
  have v8 := vi_8 hg
  have e := cg_8 hg
  by_cases z : v = 91
  · subst z
    refine ⟨R, C, T, B, upd M g 2, upd P1 g 0, upd P2 g 0, upd K g 0, id, (fun i hi => ⟨rfl, rfl, rfl, rfl, pk_un hi, pk_un hi, pk_un hi, pk_un hi⟩), ⟨r, q, t, b, 2, 0, 0, 0, e1, e2, e3, e4, e5, e6, e7, e8, pk_us, by omega, pk_us, by omega, pk_us, by omega, pk_us, by omega⟩, fo_id.1, fo_id.2, ?_⟩
    intro f_hostWidth f_hostHeight f_root f_focusedPane f_liveCount a_parent a_first a_second a_orientation a_share a_leastWidth a_leastHeight a_rectX a_rectY a_rectW a_rectH a_order a_live a_screenWidth a_screenHeight a_cursorRow a_cursorCol a_regionTop a_regionBottom a_parserMode a_paramOne a_paramTwo a_paramIndex a_cells hl s1 s2 H post KK
    exact xw_feed hg hl ev e9 (by omega) (fun y => by omega) (fun _ => br_t rfl ⟨v8, nm_r (e' := upd M g 2) (by rw [e]) ⟨v8, nm_r (e' := upd P1 g 0) (by rw [e]) ⟨v8, nm_r (e' := upd P2 g 0) (by rw [e]) ⟨v8, nm_r (e' := upd K g 0) (by rw [e]) KK⟩⟩⟩⟩) (fun y => by omega)
  have n91 : ¬ nI v = 91 := fun y => z ((nI_eq (b := 91) (by omega) (by omega)).mp y)
  refine ⟨R, C, T, B, upd M g 0, P1, P2, K, id, (fun i hi => ⟨rfl, rfl, rfl, rfl, pk_un hi, rfl, rfl, rfl⟩), ⟨r, q, t, b, 0, a, d, kk, e1, e2, e3, e4, e5, e6, e7, e8, pk_us, by omega, e11, e12, e13, e14, e15, e16⟩, fo_id.1, fo_id.2, ?_⟩
  intro f_hostWidth f_hostHeight f_root f_focusedPane f_liveCount a_parent a_first a_second a_orientation a_share a_leastWidth a_leastHeight a_rectX a_rectY a_rectW a_rectH a_order a_live a_screenWidth a_screenHeight a_cursorRow a_cursorCol a_regionTop a_regionBottom a_parserMode a_paramOne a_paramTwo a_paramIndex a_cells hl s1 s2 H post KK
  exact xw_feed hg hl ev e9 (by omega) (fun y => by omega) (fun _ => br_f n91 ⟨v8, nm_r (e' := upd M g 0) (by rw [e]) KK⟩) (fun y => by omega)
end FO
