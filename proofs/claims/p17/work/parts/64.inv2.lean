section IW
variable {f_hostWidth f_hostHeight f_root f_focusedPane f_liveCount : Int32} {a_parent a_first a_second a_orientation a_share a_leastWidth a_leastHeight a_rectX a_rectY a_rectW a_rectH a_order a_live a_screenWidth a_screenHeight a_cursorRow a_cursorCol a_regionTop a_regionBottom a_parserMode a_paramOne a_paramTwo a_paramIndex a_cells : Nat → Int32}
variable {c : Nat} {kd vl : Nat → Int32} {nd en po : Nat → Nat} {w0 h0 : Nat}
theorem iv_dead {g : Nat} (hg : g < 8) (h : a_live g = 0) : pd_D a_live (nI g) := Or.inr (Or.inr ⟨g, hg, rfl, h⟩)
/-- two live panes don't overlap -/
theorem iv_apart {p q : Nat} (G : rl_G c nd en po w0 h0 f_root a_parent a_first a_second a_orientation a_share a_leastWidth a_leastHeight a_rectX a_rectY a_rectW a_rectH kd vl a_live) (hp : p < 8) (lp : a_live p ≠ 0) (hq : q < 8) (lq : a_live q ≠ 0) (pq : p ≠ q) (o1 : vw_n a_rectX p < vw_n a_rectX q + vw_n a_rectW q) (o2 : vw_n a_rectX q < vw_n a_rectX p + vw_n a_rectW p) (o3 : vw_n a_rectY p < vw_n a_rectY q + vw_n a_rectH q) (o4 : vw_n a_rectY q < vw_n a_rectY p + vw_n a_rectH p) : False := by
  obtain ⟨s1, s2, s3, s4, s5, s6, s7, s8, s9, s10⟩ := vw_sz G hp lp
  obtain ⟨t1, t2, t3, t4, t5, t6, t7, t8, t9, t10⟩ := vw_sz G hq lq
  have ex : ∃ s, vw_n a_rectX p ≤ s ∧ s < vw_n a_rectX p + vw_n a_rectW p ∧ vw_n a_rectX q ≤ s ∧ s < vw_n a_rectX q + vw_n a_rectW q := by
    by_cases z : vw_n a_rectX p ≤ vw_n a_rectX q
    · exact ⟨vw_n a_rectX q, by omega, by omega, by omega, by omega⟩
    · exact ⟨vw_n a_rectX p, by omega, by omega, by omega, by omega⟩
  have ey : ∃ r, vw_n a_rectY p ≤ r ∧ r < vw_n a_rectY p + vw_n a_rectH p ∧ vw_n a_rectY q ≤ r ∧ r < vw_n a_rectY q + vw_n a_rectH q := by
    by_cases z : vw_n a_rectY p ≤ vw_n a_rectY q
    · exact ⟨vw_n a_rectY q, by omega, by omega, by omega, by omega⟩
    · exact ⟨vw_n a_rectY p, by omega, by omega, by omega, by omega⟩
  obtain ⟨s, x1, x2, x3, x4⟩ := ex
  obtain ⟨r, y1, y2, y3, y4⟩ := ey
  exact pq (vw_un G (r := r) (s := s) hp lp hq lq ⟨⟨y1, y2⟩, ⟨x1, x2⟩⟩ ⟨⟨y3, y4⟩, ⟨x3, x4⟩⟩)
theorem iv_pair {post : Int32 → Prop} {J45 : Int32 → Int32 → Int32 → Prop} {x1 x2 x3 x4 : Int32} {p : Nat} (G : rl_G c nd en po w0 h0 f_root a_parent a_first a_second a_orientation a_share a_leastWidth a_leastHeight a_rectX a_rectY a_rectW a_rectH kd vl a_live) (hp : p < 8) (lp : a_live p ≠ 0) (K : J45 x3 x4 (nI (p + 1))) :
    ∃ n, wL_invariants_158 post J45 x1 x2 x3 x4 (nI p) (nI (vw_n a_rectW p)) (nI (vw_n a_rectX p)) (nI (vw_n a_rectY p)) (nI (vw_n a_rectH p)) f_hostWidth f_hostHeight f_root f_focusedPane f_liveCount a_parent a_first a_second a_orientation a_share a_leastWidth a_leastHeight a_rectX a_rectY a_rectW a_rectH a_order a_live a_screenWidth a_screenHeight a_cursorRow a_cursorCol a_regionTop a_regionBottom a_parserMode a_paramOne a_paramTwo a_paramIndex a_cells n (nI (p + 1)) := by
  obtain ⟨s1, s2, s3, s4, s5, s6, s7, s8, s9, s10⟩ := vw_sz G hp lp
  have main : ∀ dd q, q + dd = 8 → p < q → wL_invariants_158 post J45 x1 x2 x3 x4 (nI p) (nI (vw_n a_rectW p)) (nI (vw_n a_rectX p)) (nI (vw_n a_rectY p)) (nI (vw_n a_rectH p)) f_hostWidth f_hostHeight f_root f_focusedPane f_liveCount a_parent a_first a_second a_orientation a_share a_leastWidth a_leastHeight a_rectX a_rectY a_rectW a_rectH a_order a_live a_screenWidth a_screenHeight a_cursorRow a_cursorCol a_regionTop a_regionBottom a_parserMode a_paramOne a_paramTwo a_paramIndex a_cells (dd + 1) (nI q) := by
    intro dd
    induction dd with
    | zero =>
      intro q hq pq
      exact br_t (nI_le (a := 8) (by omega) (by omega)) (nm_r (nI_1 p) K)
    | succ dd ih =>
      intro q hq pq
      have q8 : q < 8 := by omega
      have IH := ih (q + 1) (by omega) (by omega)
      refine br_f (nI_ge (b := 8) q8 (by omega)) ?_
      by_cases z : a_live q = 0
      · exact xr_dead (iv_dead q8 z) (br_t rfl (nm_r (nI_1 q) IH))
      · obtain ⟨t1, t2, t3, t4, t5, t6, t7, t8, t9, t10⟩ := vw_sz G q8 z
        refine xr_2 q8 z ?_
        rw [t3]
        refine br_f (tr_m1 (by omega)) (xr_0 q8 z (xr_1 q8 z (xr_3 q8 z ?_)))
        rw [t1, t2, t4, nI_add, nI_add, nI_add, nI_add]
        refine pk_le (vw_n a_rectX q + vw_n a_rectW q) (vw_n a_rectX p) (fun _ => nm_r (nI_1 q) IH) (fun o1 => pk_le (vw_n a_rectX p + vw_n a_rectW p) (vw_n a_rectX q) (fun _ => nm_r (nI_1 q) IH) (fun o2 => pk_le (vw_n a_rectY q + vw_n a_rectH q) (vw_n a_rectY p) (fun _ => nm_r (nI_1 q) IH) (fun o3 => pk_le (vw_n a_rectY p + vw_n a_rectH p) (vw_n a_rectY q) (fun _ => nm_r (nI_1 q) IH) (fun o4 => ?_))))
        exact (iv_apart G hp lp q8 z (by omega) o1 o2 o3 o4).elim
  exact ⟨_, main (7 - p) (p + 1) (by omega) (by omega)⟩
/-- the law's check of one object holds -/
theorem iv_all {post : Int32 → Prop} (V : ov_V f_hostWidth f_hostHeight f_root f_focusedPane f_liveCount a_parent a_first a_second a_orientation a_share a_leastWidth a_leastHeight a_rectX a_rectY a_rectW a_rectH a_order a_live a_screenWidth a_screenHeight a_cursorRow a_cursorCol a_regionTop a_regionBottom a_parserMode a_paramOne a_paramTwo a_paramIndex a_cells c kd vl nd en po w0 h0) (K : post 1) : wpL_invariants post (f_hostWidth, f_hostHeight, f_root, f_focusedPane, f_liveCount, a_parent, a_first, a_second, a_orientation, a_share, a_leastWidth, a_leastHeight, a_rectX, a_rectY, a_rectW, a_rectH, a_order, a_live, a_screenWidth, a_screenHeight, a_cursorRow, a_cursorCol, a_regionTop, a_regionBottom, a_parserMode, a_paramOne, a_paramTwo, a_paramIndex, a_cells) := by
  have V0 := V
  obtain ⟨rfl, rfl, lc, G, S⟩ := V
  have a1 := G.2.2.2.1
  have b1 := G.2.2.2.2.1
  have a2 := G.2.2.2.2.2.1
  have b2 := G.2.2.2.2.2.2.1
  have cnt := iv_cnt G
  have hw : h0 * w0 ≤ 12 * 24 := Nat.mul_le_mul b2 b1
  have Bm : ∀ n, n ≤ h0 → iv_B a_live a_rectX a_rectY a_rectW a_rectH w0 n ≤ h0 * w0 := by
    have mono : ∀ d n, n + d = h0 → iv_B a_live a_rectX a_rectY a_rectW a_rectH w0 n ≤ iv_B a_live a_rectX a_rectY a_rectW a_rectH w0 h0 := by
      intro d
      induction d with
      | zero => intro n h; have : n = h0 := by omega
                rw [this]; exact Nat.le_refl _
      | succ d ih =>
        intro n h
        have := ih (n + 1) (by omega)
        unfold iv_B at this ⊢
        rw [sm_s] at this
        omega
    intro n hn
    have := mono (h0 - n) n (by omega)
    omega
  have rows : ∀ dd r, r + dd = h0 → wL_invariants_280 post (nI w0) (nI h0) (nI (iv_A a_live a_rectW a_rectH 8)) (nI w0) (nI h0) f_root f_focusedPane f_liveCount a_parent a_first a_second a_orientation a_share a_leastWidth a_leastHeight a_rectX a_rectY a_rectW a_rectH a_order a_live a_screenWidth a_screenHeight a_cursorRow a_cursorCol a_regionTop a_regionBottom a_parserMode a_paramOne a_paramTwo a_paramIndex a_cells (dd + 1) (nI (iv_B a_live a_rectX a_rectY a_rectW a_rectH w0 r)) (nI r) := by
    intro dd
    induction dd with
    | zero =>
      intro r hr
      have e : r = h0 := by omega
      subst e
      refine br_t (nI_le (Nat.le_refl _) (by omega)) (br_t ?_ K)
      rw [pk_mul, pk_sub (by rw [Nat.mul_comm]; omega)]
      exact congrArg nI (by rw [Nat.mul_comm]; omega)
    | succ dd ih =>
      intro r hr
      have IH := ih (r + 1) (by omega)
      refine br_f (nI_ge (by omega) (by omega)) ?_
      have cols : ∀ ee s, s + ee = w0 → wL_invariants_289 post (wL_invariants_280 post (nI w0) (nI h0) (nI (iv_A a_live a_rectW a_rectH 8)) (nI w0) (nI h0) f_root f_focusedPane f_liveCount a_parent a_first a_second a_orientation a_share a_leastWidth a_leastHeight a_rectX a_rectY a_rectW a_rectH a_order a_live a_screenWidth a_screenHeight a_cursorRow a_cursorCol a_regionTop a_regionBottom a_parserMode a_paramOne a_paramTwo a_paramIndex a_cells (dd + 1)) (nI w0) (nI h0) (nI (iv_A a_live a_rectW a_rectH 8)) (nI r) (nI w0) (nI h0) f_root f_focusedPane f_liveCount a_parent a_first a_second a_orientation a_share a_leastWidth a_leastHeight a_rectX a_rectY a_rectW a_rectH a_order a_live a_screenWidth a_screenHeight a_cursorRow a_cursorCol a_regionTop a_regionBottom a_parserMode a_paramOne a_paramTwo a_paramIndex a_cells (ee + 1) (nI (iv_B a_live a_rectX a_rectY a_rectW a_rectH w0 r + sm_f (fun s => iv_b a_live a_rectX a_rectY a_rectW a_rectH r s) s)) (nI s) := by
        intro ee
        induction ee with
        | zero =>
          intro s hs
          have e : s = w0 := by omega
          subst e
          exact br_t (nI_le (Nat.le_refl _) (by omega)) (nm_r (nI_1 r) IH)
        | succ ee ih2 =>
          intro s hs
          have IH2 := ih2 (s + 1) (by omega)
          rw [sm_s, ← Nat.add_assoc] at IH2
          exact br_f (nI_ge (by omega) (by omega)) (iv_cell V0 (by omega) (by omega) IH2)
      exact ⟨w0 + 1, cols w0 0 (by omega)⟩
  have Am : ∀ n, n ≤ 8 → iv_A a_live a_rectW a_rectH n ≤ h0 * w0 := by
    have mono : ∀ d n, n + d = 8 → iv_A a_live a_rectW a_rectH n ≤ iv_A a_live a_rectW a_rectH 8 := by
      intro d
      induction d with
      | zero => intro n h; have : n = 8 := by omega
                rw [this]; exact Nat.le_refl _
      | succ d ih =>
        intro n h
        have := ih (n + 1) (by omega)
        unfold iv_A at this ⊢
        rw [sm_s] at this
        omega
    intro n hn
    have := mono (8 - n) n (by omega)
    omega
  have main : ∀ dd p, p + dd = 8 → wL_invariants_45 post (nI w0) (nI h0) (nI w0) (nI h0) f_root f_focusedPane f_liveCount a_parent a_first a_second a_orientation a_share a_leastWidth a_leastHeight a_rectX a_rectY a_rectW a_rectH a_order a_live a_screenWidth a_screenHeight a_cursorRow a_cursorCol a_regionTop a_regionBottom a_parserMode a_paramOne a_paramTwo a_paramIndex a_cells (dd + 1) (nI (cc_n (fun g => a_live g ≠ 0) p)) (nI (iv_A a_live a_rectW a_rectH p)) (nI p) := by
    intro dd
    induction dd with
    | zero =>
      intro p hp
      have e : p = 8 := by omega
      subst e
      refine br_t (nI_le (a := 8) (Nat.le_refl _) (by omega)) ?_
      unfold wpX_paneCount
      exact br_t lc.symm ⟨h0 + 1, rows h0 0 (by omega)⟩
    | succ dd ih =>
      intro p hp
      have p8 : p < 8 := by omega
      have IH := ih (p + 1) (by omega)
      refine br_f (nI_ge (b := 8) p8 (by omega)) ?_
      by_cases z : a_live p = 0
      · have e1 : cc_n (fun g => a_live g ≠ 0) (p + 1) = cc_n (fun g => a_live g ≠ 0) p := by rw [cc_s, cc_bf (P := a_live p ≠ 0) (fun y => y z), Nat.add_zero]
        have e2 : iv_A a_live a_rectW a_rectH (p + 1) = iv_A a_live a_rectW a_rectH p := by
          unfold iv_A
          rw [sm_s, if_pos z, Nat.add_zero]
        rw [e1, e2] at IH
        exact xr_dead (iv_dead p8 z) (br_t rfl (nm_r (nI_1 p) IH))
      · have e1 : cc_n (fun g => a_live g ≠ 0) (p + 1) = cc_n (fun g => a_live g ≠ 0) p + 1 := by rw [cc_s, cc_bt (P := a_live p ≠ 0) z]
        have e2 : iv_A a_live a_rectW a_rectH (p + 1) = iv_A a_live a_rectW a_rectH p + vw_n a_rectW p * vw_n a_rectH p := by
          unfold iv_A
          rw [sm_s, if_neg z]
        rw [e1, e2] at IH
        obtain ⟨t1, t2, t3, t4, t5, t6, t7, t8, t9, t10⟩ := vw_sz G p8 z
        refine xr_2 p8 z ?_
        rw [t3]
        refine br_f (tr_m1 (by omega)) (xr_0 p8 z (xr_1 p8 z (xr_3 p8 z ?_)))
        rw [t1, t2, t4, nI_add, nI_add]
        refine br_f (nI_nlt (b := 1) t5 (by omega)) (br_f (nI_nlt (b := 1) t6 (by omega)) (br_f (nI_pos (by omega)) (br_f (nI_pos (by omega)) (br_f (nI_nlt t7 (by omega)) (br_t (nI_le t8 (by omega)) (nm_r (nI_1 _) (nm_r (e' := nI (iv_A a_live a_rectW a_rectH p + vw_n a_rectW p * vw_n a_rectH p)) (by rw [pk_mul, nI_add]) (nm_r (nI_1 p) (iv_pair G p8 z IH)))))))))
  unfold wpL_invariants
  refine br_t rfl (br_f (by decide) (br_t rfl ?_))
  refine br_f (nI_nlt (b := 8) a1 (by omega)) (br_f (nI_nlt (a := 24) b1 (by omega)) (br_f (nI_nlt (b := 4) a2 (by omega)) (br_t (nI_le (b := 12) b2 (by omega)) ⟨9, main 8 0 (by omega)⟩)))
end IW
