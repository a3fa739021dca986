section CL
variable {f_hostWidth f_hostHeight f_root f_focusedPane f_liveCount : Int32} {a_parent a_first a_second a_orientation a_share a_leastWidth a_leastHeight a_rectX a_rectY a_rectW a_rectH a_order a_live a_screenWidth a_screenHeight a_cursorRow a_cursorCol a_regionTop a_regionBottom a_parserMode a_paramOne a_paramTwo a_paramIndex a_cells : Nat → Int32} {f_count f_hostW f_hostH f_focus f_resW f_resH : Int32} {a_kind a_val a_tk a_tv b_live a_wasLive a_rx a_ry a_rw a_rh a_oldW a_oldH a_row a_col a_top a_bot a_mode a_p1 a_p2 a_k b_cells a_sx a_sy a_sw a_sh a_mw a_mh : Nat → Int32}
variable {c : Nat} {nd en po : Nat → Nat} {kd vl : Nat → Int32}
theorem xw_fleaf' {post : Int32 → Prop} {x : Int32} {j d : Nat} (T : tr_T c nd en po f_root a_parent a_first a_second a_orientation a_share kd vl) (hx : x = nI (nd j)) (h1 : j + d < c) (h2 : kd (j + d) = 0) (h3 : ∀ t, t < d → kd (j + t) ≠ 0) (K : post (nI (nd (j + d)))) : wpX_firstLeaf post (f_hostWidth, f_hostHeight, f_root, f_focusedPane, f_liveCount, a_parent, a_first, a_second, a_orientation, a_share, a_leastWidth, a_leastHeight, a_rectX, a_rectY, a_rectW, a_rectH, a_order, a_live, a_screenWidth, a_screenHeight, a_cursorRow, a_cursorCol, a_regionTop, a_regionBottom, a_parserMode, a_paramOne, a_paramTwo, a_paramIndex, a_cells) x := by
  subst hx
  exact xw_fleaf T h1 h2 h3 K
theorem yw_312 {post : Int32 → SY → Prop} {x6 : Int32} {m : Nat} (hm : m ≤ 15) (K : ∀ A V : Nat → Int32, (∀ i, i < m → A i = a_tk i ∧ V i = a_tv i) → ∀ n, wY_close_312 post x6 (nI m) f_count f_hostW f_hostH f_focus f_resW f_resH (n + 1) (nI m) A V a_tk a_tv b_live a_wasLive a_rx a_ry a_rw a_rh a_oldW a_oldH a_row a_col a_top a_bot a_mode a_p1 a_p2 a_k b_cells a_sx a_sy a_sw a_sh a_mw a_mh) : ∃ n, wY_close_312 post x6 (nI m) f_count f_hostW f_hostH f_focus f_resW f_resH n 0 a_kind a_val a_tk a_tv b_live a_wasLive a_rx a_ry a_rw a_rh a_oldW a_oldH a_row a_col a_top a_bot a_mode a_p1 a_p2 a_k b_cells a_sx a_sy a_sw a_sh a_mw a_mh := by
  have main : ∀ dd j (A V : Nat → Int32), j + dd = m → (∀ i, i < j → A i = a_tk i ∧ V i = a_tv i) → wY_close_312 post x6 (nI m) f_count f_hostW f_hostH f_focus f_resW f_resH (dd + 1) (nI j) A V a_tk a_tv b_live a_wasLive a_rx a_ry a_rw a_rh a_oldW a_oldH a_row a_col a_top a_bot a_mode a_p1 a_p2 a_k b_cells a_sx a_sy a_sw a_sh a_mw a_mh := by
    intro dd
    induction dd with
    | zero =>
      intro j A V hj h
      have ej : j = m := by omega
      subst ej
      exact K A V h 0
    | succ dd ih =>
      intro j A V hj h
      have vj : vp_in (nI j) 16 := vi_16 (by omega)
      have cj : (nI j).toNatClampNeg = j := cg_16 (by omega)
      refine br_f (nI_ge (by omega) (by omega)) ⟨vj, vj, nm_r (e' := upd A j (a_tk j)) (by rw [cj]) ⟨vj, vj, nm_r (e' := upd V j (a_tv j)) (by rw [cj]) (nm_r (nI_1 j) (ih (j + 1) _ _ (by omega) (fun i hi => ?_)))⟩⟩
      by_cases z : i = j
      · subst z; rw [pk_us, pk_us]; exact ⟨rfl, rfl⟩
      · rw [pk_un z, pk_un z]; exact h i (by omega)
  exact ⟨_, main m 0 a_kind a_val (by omega) (fun i hi => by omega)⟩
theorem yw_263 {post : Int32 → SY → Prop} {x6 : Int32} {n0 j0 e : Nat} (hje : j0 ≤ e) (he : e ≤ 15) (hn : n0 + (e - j0) ≤ 15)
    (K : ∀ TK TV : Nat → Int32, (∀ i, i < n0 → TK i = a_tk i ∧ TV i = a_tv i) → (∀ i, j0 ≤ i → i < e → TK (n0 + (i - j0)) = a_kind i ∧ TV (n0 + (i - j0)) = a_val i) → ∃ n, wY_close_312 post x6 (nI (n0 + (e - j0))) (nI e) f_hostW f_hostH f_focus f_resW f_resH n 0 a_kind a_val TK TV b_live a_wasLive a_rx a_ry a_rw a_rh a_oldW a_oldH a_row a_col a_top a_bot a_mode a_p1 a_p2 a_k b_cells a_sx a_sy a_sw a_sh a_mw a_mh) : ∃ n, wY_close_263 post x6 (nI e) f_hostW f_hostH f_focus f_resW f_resH n (nI n0) (nI j0) a_kind a_val a_tk a_tv b_live a_wasLive a_rx a_ry a_rw a_rh a_oldW a_oldH a_row a_col a_top a_bot a_mode a_p1 a_p2 a_k b_cells a_sx a_sy a_sw a_sh a_mw a_mh := by
  have main : ∀ dd j (TK TV : Nat → Int32), j + dd = e → j0 ≤ j → (∀ i, i < n0 → TK i = a_tk i ∧ TV i = a_tv i) → (∀ i, j0 ≤ i → i < j → TK (n0 + (i - j0)) = a_kind i ∧ TV (n0 + (i - j0)) = a_val i) → wY_close_263 post x6 (nI e) f_hostW f_hostH f_focus f_resW f_resH (dd + 1) (nI (n0 + (j - j0))) (nI j) a_kind a_val TK TV b_live a_wasLive a_rx a_ry a_rw a_rh a_oldW a_oldH a_row a_col a_top a_bot a_mode a_p1 a_p2 a_k b_cells a_sx a_sy a_sw a_sh a_mw a_mh := by
    intro dd
    induction dd with
    | zero =>
      intro j TK TV hj jj h1 h2
      have ej : j = e := by omega
      subst ej
      exact br_t (nI_le (Nat.le_refl _) (by omega)) (K TK TV h1 h2)
    | succ dd ih =>
      intro j TK TV hj jj h1 h2
      have vj : vp_in (nI j) 16 := vi_16 (by omega)
      have vn : vp_in (nI (n0 + (j - j0))) 16 := vi_16 (by omega)
      have cj : (nI j).toNatClampNeg = j := cg_16 (by omega)
      have cn : (nI (n0 + (j - j0))).toNatClampNeg = n0 + (j - j0) := cg_16 (by omega)
      have en1 : nI (n0 + (j - j0)) + 1 = nI (n0 + (j + 1 - j0)) := by rw [nI_1]; exact congrArg nI (by omega)
      refine br_f (nI_ge (by omega) (by omega)) ⟨vj, vn, nm_r (e' := upd TK (n0 + (j - j0)) (a_kind j)) (by rw [cj, cn]) ⟨vj, vn, nm_r (e' := upd TV (n0 + (j - j0)) (a_val j)) (by rw [cj, cn]) (nm_r en1 (nm_r (nI_1 j) (ih (j + 1) _ _ (by omega) (by omega) (fun i hi => ?_) (fun i i1 i2 => ?_))))⟩⟩
      · rw [pk_un (by omega), pk_un (by omega)]; exact h1 i hi
      · by_cases z : i = j
        · subst z; rw [pk_us, pk_us]; exact ⟨rfl, rfl⟩
        · rw [pk_un (by omega), pk_un (by omega)]; exact h2 i i1 (by omega)
  have m := main (e - j0) j0 a_tk a_tv (by omega) (Nat.le_refl _) (fun i _ => ⟨rfl, rfl⟩) (fun i i1 i2 => by omega)
  rw [Nat.sub_self, Nat.add_zero] at m
  exact ⟨_, m⟩
theorem yw_215 {post : Int32 → SY → Prop} {x5 x6 : Int32} {n0 j0 e : Nat} (hje : j0 ≤ e) (he : e ≤ 15) (hn : n0 + (e - j0) ≤ 15)
    (K : ∀ TK TV : Nat → Int32, (∀ i, i < n0 → TK i = a_tk i ∧ TV i = a_tv i) → (∀ i, j0 ≤ i → i < e → TK (n0 + (i - j0)) = a_kind i ∧ TV (n0 + (i - j0)) = a_val i) → ∃ n, wY_close_263 post x6 f_count f_hostW f_hostH f_focus f_resW f_resH n (nI (n0 + (e - j0))) x5 a_kind a_val TK TV b_live a_wasLive a_rx a_ry a_rw a_rh a_oldW a_oldH a_row a_col a_top a_bot a_mode a_p1 a_p2 a_k b_cells a_sx a_sy a_sw a_sh a_mw a_mh) : ∃ n, wY_close_215 post (nI e) x5 x6 f_count f_hostW f_hostH f_focus f_resW f_resH n (nI n0) (nI j0) a_kind a_val a_tk a_tv b_live a_wasLive a_rx a_ry a_rw a_rh a_oldW a_oldH a_row a_col a_top a_bot a_mode a_p1 a_p2 a_k b_cells a_sx a_sy a_sw a_sh a_mw a_mh := by
  have main : ∀ dd j (TK TV : Nat → Int32), j + dd = e → j0 ≤ j → (∀ i, i < n0 → TK i = a_tk i ∧ TV i = a_tv i) → (∀ i, j0 ≤ i → i < j → TK (n0 + (i - j0)) = a_kind i ∧ TV (n0 + (i - j0)) = a_val i) → wY_close_215 post (nI e) x5 x6 f_count f_hostW f_hostH f_focus f_resW f_resH (dd + 1) (nI (n0 + (j - j0))) (nI j) a_kind a_val TK TV b_live a_wasLive a_rx a_ry a_rw a_rh a_oldW a_oldH a_row a_col a_top a_bot a_mode a_p1 a_p2 a_k b_cells a_sx a_sy a_sw a_sh a_mw a_mh := by
    intro dd
    induction dd with
    | zero =>
      intro j TK TV hj jj h1 h2
      have ej : j = e := by omega
      subst ej
      exact br_t (nI_le (Nat.le_refl _) (by omega)) (K TK TV h1 h2)
    | succ dd ih =>
      intro j TK TV hj jj h1 h2
      have vj : vp_in (nI j) 16 := vi_16 (by omega)
      have vn : vp_in (nI (n0 + (j - j0))) 16 := vi_16 (by omega)
      have cj : (nI j).toNatClampNeg = j := cg_16 (by omega)
      have cn : (nI (n0 + (j - j0))).toNatClampNeg = n0 + (j - j0) := cg_16 (by omega)
      have en1 : nI (n0 + (j - j0)) + 1 = nI (n0 + (j + 1 - j0)) := by rw [nI_1]; exact congrArg nI (by omega)
      refine br_f (nI_ge (by omega) (by omega)) ⟨vj, vn, nm_r (e' := upd TK (n0 + (j - j0)) (a_kind j)) (by rw [cj, cn]) ⟨vj, vn, nm_r (e' := upd TV (n0 + (j - j0)) (a_val j)) (by rw [cj, cn]) (nm_r en1 (nm_r (nI_1 j) (ih (j + 1) _ _ (by omega) (by omega) (fun i hi => ?_) (fun i i1 i2 => ?_))))⟩⟩
      · rw [pk_un (by omega), pk_un (by omega)]; exact h1 i hi
      · by_cases z : i = j
        · subst z; rw [pk_us, pk_us]; exact ⟨rfl, rfl⟩
        · rw [pk_un (by omega), pk_un (by omega)]; exact h2 i i1 (by omega)
  have m := main (e - j0) j0 a_tk a_tv (by omega) (Nat.le_refl _) (fun i _ => ⟨rfl, rfl⟩) (fun i i1 i2 => by omega)
  rw [Nat.sub_self, Nat.add_zero] at m
  exact ⟨_, m⟩
theorem yw_169 {post : Int32 → SY → Prop} {x3 x4 x5 x6 : Int32} {n0 j0 e : Nat} (hje : j0 ≤ e) (he : e ≤ 15) (hn : n0 + (e - j0) ≤ 15)
    (K : ∀ TK TV : Nat → Int32, (∀ i, i < n0 → TK i = a_tk i ∧ TV i = a_tv i) → (∀ i, j0 ≤ i → i < e → TK (n0 + (i - j0)) = a_kind i ∧ TV (n0 + (i - j0)) = a_val i) → ∃ n, wY_close_215 post x4 x5 x6 f_count f_hostW f_hostH f_focus f_resW f_resH n (nI (n0 + (e - j0))) x3 a_kind a_val TK TV b_live a_wasLive a_rx a_ry a_rw a_rh a_oldW a_oldH a_row a_col a_top a_bot a_mode a_p1 a_p2 a_k b_cells a_sx a_sy a_sw a_sh a_mw a_mh) : ∃ n, wY_close_169 post (nI e) x3 x4 x5 x6 f_count f_hostW f_hostH f_focus f_resW f_resH n (nI n0) (nI j0) a_kind a_val a_tk a_tv b_live a_wasLive a_rx a_ry a_rw a_rh a_oldW a_oldH a_row a_col a_top a_bot a_mode a_p1 a_p2 a_k b_cells a_sx a_sy a_sw a_sh a_mw a_mh := by
  have main : ∀ dd j (TK TV : Nat → Int32), j + dd = e → j0 ≤ j → (∀ i, i < n0 → TK i = a_tk i ∧ TV i = a_tv i) → (∀ i, j0 ≤ i → i < j → TK (n0 + (i - j0)) = a_kind i ∧ TV (n0 + (i - j0)) = a_val i) → wY_close_169 post (nI e) x3 x4 x5 x6 f_count f_hostW f_hostH f_focus f_resW f_resH (dd + 1) (nI (n0 + (j - j0))) (nI j) a_kind a_val TK TV b_live a_wasLive a_rx a_ry a_rw a_rh a_oldW a_oldH a_row a_col a_top a_bot a_mode a_p1 a_p2 a_k b_cells a_sx a_sy a_sw a_sh a_mw a_mh := by
    intro dd
    induction dd with
    | zero =>
      intro j TK TV hj jj h1 h2
      have ej : j = e := by omega
      subst ej
      exact br_t (nI_le (Nat.le_refl _) (by omega)) (K TK TV h1 h2)
    | succ dd ih =>
      intro j TK TV hj jj h1 h2
      have vj : vp_in (nI j) 16 := vi_16 (by omega)
      have vn : vp_in (nI (n0 + (j - j0))) 16 := vi_16 (by omega)
      have cj : (nI j).toNatClampNeg = j := cg_16 (by omega)
      have cn : (nI (n0 + (j - j0))).toNatClampNeg = n0 + (j - j0) := cg_16 (by omega)
      have en1 : nI (n0 + (j - j0)) + 1 = nI (n0 + (j + 1 - j0)) := by rw [nI_1]; exact congrArg nI (by omega)
      refine br_f (nI_ge (by omega) (by omega)) ⟨vj, vn, nm_r (e' := upd TK (n0 + (j - j0)) (a_kind j)) (by rw [cj, cn]) ⟨vj, vn, nm_r (e' := upd TV (n0 + (j - j0)) (a_val j)) (by rw [cj, cn]) (nm_r en1 (nm_r (nI_1 j) (ih (j + 1) _ _ (by omega) (by omega) (fun i hi => ?_) (fun i i1 i2 => ?_))))⟩⟩
      · rw [pk_un (by omega), pk_un (by omega)]; exact h1 i hi
      · by_cases z : i = j
        · subst z; rw [pk_us, pk_us]; exact ⟨rfl, rfl⟩
        · rw [pk_un (by omega), pk_un (by omega)]; exact h2 i i1 (by omega)
  have m := main (e - j0) j0 a_tk a_tv (by omega) (Nat.le_refl _) (fun i _ => ⟨rfl, rfl⟩) (fun i i1 i2 => by omega)
  rw [Nat.sub_self, Nat.add_zero] at m
  exact ⟨_, m⟩
/-- the reference's list after a close -/
theorem yw_119 {post : Int32 → SY → Prop} {u p s d : Nat} (F : cl_F c a_kind en u p s) (hc : c ≤ 15) (hcount : f_count = nI c) (hd1 : s + d < en s) (hd2 : a_kind (s + d) = 0) (hd3 : ∀ t, t < d → a_kind (s + t) ≠ 0) (hv : a_val (s + d) = nI (nd (s + d))) (n15 : nd (s + d) < 15)
    (K : ∀ A V TK TV : Nat → Int32, (∀ j, j < c - 2 → A j = a_kind (cl_r u p j) ∧ V j = a_val (cl_r u p j)) → ∀ n, wY_close_312 post (nI (nd (s + d))) (nI (c - 2)) f_count f_hostW f_hostH f_focus f_resW f_resH (n + 1) (nI (c - 2)) A V TK TV b_live a_wasLive a_rx a_ry a_rw a_rh a_oldW a_oldH a_row a_col a_top a_bot a_mode a_p1 a_p2 a_k b_cells a_sx a_sy a_sw a_sh a_mw a_mh) :
    ∃ n, wY_close_119 post (nI u) (nI s) (nI (en s)) (nI (en u)) f_count f_hostW f_hostH f_focus f_resW f_resH a_kind a_val a_tk a_tv b_live a_wasLive a_rx a_ry a_rw a_rh a_oldW a_oldH a_row a_col a_top a_bot a_mode a_p1 a_p2 a_k b_cells a_sx a_sy a_sw a_sh a_mw a_mh n (-1) (nI s) := by
  subst hcount
  obtain ⟨r1, r2, r3, r4, r5, r6⟩ := cl_seg F
  obtain ⟨P, f1, f2, f3, f4, f5, f6, f7, f8, f9, f10⟩ := id F
  have m1 : ¬ (0 : Int32) ≤ -1 := by decide
  have pos : (0 : Int32) ≤ nI (nd (s + d)) := nI_pos' (by omega)
  have copies : ∃ n, wY_close_169 post (nI u) (nI s) (nI (en s)) (nI (en u)) (nI (nd (s + d))) (nI c) f_hostW f_hostH f_focus f_resW f_resH n 0 0 a_kind a_val a_tk a_tv b_live a_wasLive a_rx a_ry a_rw a_rh a_oldW a_oldH a_row a_col a_top a_bot a_mode a_p1 a_p2 a_k b_cells a_sx a_sy a_sw a_sh a_mw a_mh := by
    refine yw_169 (n0 := 0) (j0 := 0) (e := u) (Nat.zero_le _) (by omega) (by omega) (fun TK TV _ h1 => ?_)
    rw [show 0 + (u - 0) = u by omega]
    refine yw_215 (n0 := u) (j0 := s) (e := en s) (by omega) (by omega) (by omega) (fun TK2 TV2 h2 h3 => ?_)
    rw [r4]
    refine yw_263 (n0 := en u - 2) (j0 := en u) (e := c) f10 hc (by omega) (fun TK3 TV3 h4 h5 => ?_)
    rw [show en u - 2 + (c - en u) = c - 2 by omega]
    refine yw_312 (by omega) (fun A V h6 n => K A V TK3 TV3 (fun j hj => ?_) n)
    obtain ⟨e1, e2⟩ := h6 j hj
    rw [e1, e2]
    by_cases z1 : j < u
    · have a := h1 j (Nat.zero_le _) z1
      rw [show 0 + (j - 0) = j by omega] at a
      have b := h2 j z1
      have b' := h4 j (by omega)
      rw [r1 j z1]
      exact ⟨b'.1.trans (b.1.trans a.1), b'.2.trans (b.2.trans a.2)⟩
    · by_cases z2 : j < en u - 2
      · have a := h3 (s + (j - u)) (by omega) (by omega)
        rw [show u + (s + (j - u) - s) = j by omega] at a
        have b' := h4 j z2
        have r := r2 (s + (j - u)) (by omega) (by omega)
        rw [show u + (s + (j - u) - s) = j by omega] at r
        rw [r]
        exact ⟨b'.1.trans a.1, b'.2.trans a.2⟩
      · have a := h5 (j + 2) (by omega) (by omega)
        rw [show en u - 2 + (j + 2 - en u) = j by omega] at a
        have r := r3 (j + 2) (by omega)
        rw [show j + 2 - 2 = j by omega] at r
        rw [r]
        exact a
  have done : ∀ dd j, j + dd = en s → wY_close_119 post (nI u) (nI s) (nI (en s)) (nI (en u)) (nI c) f_hostW f_hostH f_focus f_resW f_resH a_kind a_val a_tk a_tv b_live a_wasLive a_rx a_ry a_rw a_rh a_oldW a_oldH a_row a_col a_top a_bot a_mode a_p1 a_p2 a_k b_cells a_sx a_sy a_sw a_sh a_mw a_mh (dd + 1) (nI (nd (s + d))) (nI j) := by
    intro dd
    induction dd with
    | zero =>
      intro j hj
      exact br_t (nI_le (by omega) (by omega)) (br_t pos copies)
    | succ dd ih =>
      intro j hj
      have IH := ih (j + 1) (by omega)
      refine br_f (nI_ge (by omega) (by omega)) ⟨vi_16 (by omega), ?_⟩
      exact br_c (fun _ => br_t pos (nm_r (nI_1 j) IH)) (fun _ => nm_r (nI_1 j) IH)
  have seek : ∀ dd t, t + dd = d → wY_close_119 post (nI u) (nI s) (nI (en s)) (nI (en u)) (nI c) f_hostW f_hostH f_focus f_resW f_resH a_kind a_val a_tk a_tv b_live a_wasLive a_rx a_ry a_rw a_rh a_oldW a_oldH a_row a_col a_top a_bot a_mode a_p1 a_p2 a_k b_cells a_sx a_sy a_sw a_sh a_mw a_mh ((en s - (s + d)) + dd + 1) (-1) (nI (s + t)) := by
    intro dd
    induction dd with
    | zero =>
      intro t ht
      have e : t = d := by omega
      subst e
      obtain ⟨x, hx⟩ : ∃ x, en s - (s + t) = x + 1 := ⟨en s - (s + t) - 1, by omega⟩
      rw [hx]
      have v16 : vp_in (nI (s + t)) 16 := vi_16 (by omega)
      refine br_f (nI_ge hd1 (by omega)) ⟨v16, ?_⟩
      rw [cg_16 (by omega)]
      exact br_t hd2 (br_f m1 ⟨v16, nm_r hv (nm_r (nI_1 _) (done x (s + t + 1) (by omega)))⟩)
    | succ dd ih =>
      intro t ht
      have IH := ih (t + 1) (by omega)
      refine br_f (nI_ge (by omega) (by omega)) ⟨vi_16 (by omega), ?_⟩
      rw [cg_16 (by omega)]
      exact br_f (hd3 t (by omega)) (nm_r (nI_1 _) IH)
  exact ⟨_, seek d 0 (by omega)⟩
theorem yw_23 {post : Int32 → SY → Prop} {u p s : Nat} (F : cl_F c a_kind en u p s) (ch : ps_ch a_kind en c u p) (hc : c ≤ 15) (hcount : f_count = nI c) (K : ∃ n, wY_close_119 post (nI u) (nI s) (nI (en s)) (nI (en u)) f_count f_hostW f_hostH f_focus f_resW f_resH a_kind a_val a_tk a_tv b_live a_wasLive a_rx a_ry a_rw a_rh a_oldW a_oldH a_row a_col a_top a_bot a_mode a_p1 a_p2 a_k b_cells a_sx a_sy a_sw a_sh a_mw a_mh n (-1) (nI s)) : ∃ n, wY_close_23 post (nI p) f_count f_hostW f_hostH f_focus f_resW f_resH a_kind a_val a_tk a_tv b_live a_wasLive a_rx a_ry a_rw a_rh a_oldW a_oldH a_row a_col a_top a_bot a_mode a_p1 a_p2 a_k b_cells a_sx a_sy a_sw a_sh a_mw a_mh n (-1) 0 := by
  subst hcount
  obtain ⟨P, f1, f2, f3, f4, f5, f6, f7, f8, f9, f10⟩ := id F
  have K106 : wY_close_106 post (nI u) (nI s) (nI (en s)) (nI c) f_hostW f_hostH f_focus f_resW f_resH a_kind a_val a_tk a_tv b_live a_wasLive a_rx a_ry a_rw a_rh a_oldW a_oldH a_row a_col a_top a_bot a_mode a_p1 a_p2 a_k b_cells a_sx a_sy a_sw a_sh a_mw a_mh := by
    unfold wY_close_106
    exact yw_subEnd P hc rfl f1 K
  have main : ∀ dd j, j + dd = p → wY_close_23 post (nI p) (nI c) f_hostW f_hostH f_focus f_resW f_resH a_kind a_val a_tk a_tv b_live a_wasLive a_rx a_ry a_rw a_rh a_oldW a_oldH a_row a_col a_top a_bot a_mode a_p1 a_p2 a_k b_cells a_sx a_sy a_sw a_sh a_mw a_mh (dd + 1) (if u < j then nI u else -1) (nI j) := by
    intro dd
    induction dd with
    | zero =>
      intro j hj
      have e : j = p := by omega
      subst e
      rw [if_pos f6]
      refine br_t (nI_le (Nat.le_refl _) (by omega)) (br_t (nI_pos' (by omega)) ?_)
      rw [nI_1]
      rcases f7 with ⟨g1, g2, g3, g4, g5⟩ | ⟨g1, g2, g3, g4⟩
      · refine br_t (by rw [g1]) ?_
        have es : j + 1 = s := by omega
        rw [nI_1, es]
        exact nm_e (yw_subEnd P hc rfl f5 K106)
      · refine br_f (fun z => ?_) ?_
        · have := (nI_eq (by omega) (by omega)).mp z
          omega
        · have es : en s = j := by rw [g2]; exact g1.symm
          rw [es, g2] at K106
          exact nm_e K106
    | succ dd ih =>
      intro j hj
      have IH := ih (j + 1) (by omega)
      have jc : j < c := by omega
      refine br_f (nI_ge (by omega) (by omega)) ⟨vi_16 (by omega), ?_⟩
      rw [cg_16 (by omega)]
      by_cases z : a_kind j = 0
      · have ne : j ≠ u := fun e => f2 (by rw [← e]; exact z)
        have ei : (if u < j + 1 then nI u else (-1 : Int32)) = if u < j then nI u else -1 := by
          by_cases y : u < j
          · rw [if_pos y, if_pos (by omega)]
          · rw [if_neg y, if_neg (by omega)]
        rw [ei] at IH
        exact br_t z (nm_r (nI_1 j) IH)
      · obtain ⟨a1, a2, a3, a4, a5, a6⟩ := ps_nd P jc z
        refine br_f z (nm_r (nI_1 j) (yw_subEnd P hc rfl a5 ?_))
        by_cases y : j = u
        · subst y
          rw [if_pos (by omega)] at IH
          refine pk_eq p (j + 1) (fun _ => nm_r (nI_1 j) IH) (fun y1 => pk_eq p (en (j + 1)) (fun _ => nm_r (nI_1 j) IH) (fun y2 => ?_))
          rcases ch.2.2 with h | h
          · exact absurd h y1
          · exact absurd h y2
        · have ei : (if u < j + 1 then nI u else (-1 : Int32)) = if u < j then nI u else -1 := by
            by_cases x : u < j
            · rw [if_pos x, if_pos (by omega)]
            · rw [if_neg x, if_neg (by omega)]
          rw [ei] at IH
          refine pk_eq p (j + 1) (fun x => absurd (ps_un P ⟨jc, z, Or.inl x⟩ ch) y) (fun y1 => pk_eq p (en (j + 1)) (fun x => absurd (ps_un P ⟨jc, z, Or.inr x⟩ ch) y) (fun y2 => nm_r (nI_1 j) IH))
  have m := main p 0 (by omega)
  rw [if_neg (by omega)] at m
  exact ⟨_, m⟩
end CL
theorem lv_close {c u p s : Nat} {nd en po : Nat → Nat} {root : Int32} {pa fi se ori sr kd vl lv : Nat → Int32} (T : tr_T c nd en po root pa fi se ori sr kd vl) (F : cl_F c kd en u p s) (V : lv_R c nd lv) (p8 : nd p < 8) : lv_R (c - 2) (fun j => nd (cl_r u p j)) (upd lv (nd p) 0) := by
  obtain ⟨P, f1, f2, f3, f4, f5, f6, f7, f8, f9, f10⟩ := id F
  intro x hx
  by_cases z : x = nd p
  · subst z
    rw [pk_us]
    refine ⟨Or.inl rfl, fun y => absurd rfl y, fun ⟨i, hi, e⟩ => ?_⟩
    have r := cl_rn (P := u) (p := p) (j := i) f6
    have := tr_inj T (by omega) f4 e
    exact absurd this r.2.1
  · rw [pk_un z]
    refine ⟨(V x hx).1, fun h => ?_, fun h => ?_⟩
    · obtain ⟨i, hi, e⟩ := (V x hx).2.mp h
      have ip : i ≠ p := fun y => z (by rw [← e, y])
      have iu : i ≠ u := by
        intro y
        have := ((T.2.2.2.2.2.1 u f1).2.2.2.2 f2).1
        rw [← y, e] at this
        omega
      refine ⟨cl_d u p i, cl_lt F hi ip, ?_⟩
      show nd (cl_r u p (cl_d u p i)) = x
      rw [cl_rt F ip, if_neg iu]
      exact e
    · obtain ⟨i, hi, e⟩ := h
      have r := cl_rn (P := u) (p := p) (j := i) f6
      exact (V x hx).2.mpr ⟨cl_r u p i, by omega, e⟩
