theorem nI_m1lt {i : Nat} (h : i < 2 ^ 31) : nI i - 1 < nI i := by
  cases i with
  | zero => decide
  | succ i => rw [nI_pred]; exact nI_lt (by omega) h
theorem la_F0 {kd : Nat → Int32} {nd : Nat → Nat} {rx ry rw rh : Nat → Int32} {tr tc : Int32} {i : Nat} (h : kd i = 0) : la_F kd nd rx ry rw rh tr tc (i + 1) = la_F kd nd rx ry rw rh tr tc i := by
  have e1 : ¬ kd i = 1 := fun z => ge_10 z h
  have e2 : ¬ kd i = 2 := fun z => ge_20 z h
  show (if kd i = 1 then _ else if kd i = 2 then _ else _) = _
  rw [if_neg e1, if_neg e2]
theorem la_Fn {kd : Nat → Int32} {nd : Nat → Nat} {rx ry rw rh : Nat → Int32} {tr tc : Int32} : ∀ i, ∃ n, n < 65536 ∧ la_F kd nd rx ry rw rh tr tc i = nI n
  | 0 => ⟨0, by omega, rfl⟩
  | i + 1 => by
    have ih := la_Fn (kd := kd) (nd := nd) (rx := rx) (ry := ry) (rw := rw) (rh := rh) (tr := tr) (tc := tc) i
    show ∃ n, n < 65536 ∧ (if kd i = 1 then (if tc = rx (nd i) + rw (nd (i + 1)) ∧ ry (nd i) ≤ tr ∧ tr < ry (nd i) + rh (nd i) then (124 : Int32) else la_F kd nd rx ry rw rh tr tc i)
      else if kd i = 2 then (if tr = ry (nd i) + rh (nd (i + 1)) ∧ rx (nd i) ≤ tc ∧ tc < rx (nd i) + rw (nd i) then 45 else la_F kd nd rx ry rw rh tr tc i) else la_F kd nd rx ry rw rh tr tc i) = nI n
    split
    · split
      · exact ⟨124, by omega, rfl⟩
      · exact ih
    · split
      · split
        · exact ⟨45, by omega, rfl⟩
        · exact ih
      · exact ih
section YL
variable {f_count f_hostW f_hostH f_focus f_resW f_resH : Int32} {a_kind a_val a_tk a_tv a_live a_wasLive a_rx a_ry a_rw a_rh a_oldW a_oldH a_row a_col a_top a_bot a_mode a_p1 a_p2 a_k a_cells a_sx a_sy a_sw a_sh a_mw a_mh : Nat → Int32}
variable {c : Nat} {nd en po : Nat → Nat}
theorem yw_subEnd {post : Int32 → Prop} {i : Nat} (P : ps_P c a_kind en) (hc : c ≤ 15) (hcount : f_count = nI c) (hi : i < c) (K : post (nI (en i))) : wpY_subEnd post (f_count, f_hostW, f_hostH, f_focus, f_resW, f_resH, a_kind, a_val, a_tk, a_tv, a_live, a_wasLive, a_rx, a_ry, a_rw, a_rh, a_oldW, a_oldH, a_row, a_col, a_top, a_bot, a_mode, a_p1, a_p2, a_k, a_cells, a_sx, a_sy, a_sw, a_sh, a_mw, a_mh) (nI i) := by
  subst hcount
  have he := (P.2.2 i hi).2.1
  have hie := (P.2.2 i hi).1
  refine lp2 (fun n s j => wY_subEnd_4 post (nI c) f_hostW f_hostH f_focus f_resW f_resH a_kind a_val a_tk a_tv a_live a_wasLive a_rx a_ry a_rw a_rh a_oldW a_oldH a_row a_col a_top a_bot a_mode a_p1 a_p2 a_k a_cells a_sx a_sy a_sw a_sh a_mw a_mh n (nI s) (nI j)) (fun s j => ps_st en (fun _ _ => True) (en i) s j) (fun s j => 16 - j) ?_ 1 i ⟨hie, trivial, rfl⟩
  intro n s j I IH
  have l := ps_st_len P he I
  refine br_f (nI_pos (by omega)) ?_
  by_cases hjc : c ≤ j
  · have e : j = en i := by omega
    refine br_t (nI_le hjc (by omega)) ?_
    rw [e]; exact K
  · refine br_f (nI_ge (by omega) (by omega)) ?_
    cases s with
    | zero =>
      have e : j = en i := I
      refine br_t (Int32.le_refl _) ?_
      rw [e]; exact K
    | succ t =>
      refine br_f (nI_nle (by omega) (by omega)) ⟨vi_16 (by omega), ?_⟩
      rw [cg_16 (by omega)]
      by_cases z : a_kind j = 0
      · refine br_t z (nm_r (pk_m1 t) (nm_r (nI_1 j) (IH _ _ ?_ (by omega))))
        have h := I.2.2
        rw [ps_lf P (by omega) z] at h
        exact h
      · exact br_f z (nm_r (nI_1 (t + 1)) (nm_r (nI_1 j) (IH _ _ (ps_st_node P he (by omega) z I.2.2 trivial trivial) (by omega))))
theorem yw_mins {post : SY → Prop} {i : Nat} {lw lh : Nat → Int32} (P : ps_P c a_kind en) (Kd : la_K c a_kind a_val) (hc : c ≤ 15) (hcount : f_count = nI c) (L : la_L c a_kind nd en lw lh) (hi : i < c) (K : ∀ mw mh, post (f_count, f_hostW, f_hostH, f_focus, lw (nd i), lh (nd i), a_kind, a_val, a_tk, a_tv, a_live, a_wasLive, a_rx, a_ry, a_rw, a_rh, a_oldW, a_oldH, a_row, a_col, a_top, a_bot, a_mode, a_p1, a_p2, a_k, a_cells, a_sx, a_sy, a_sw, a_sh, mw, mh)) : wpY_mins post (f_count, f_hostW, f_hostH, f_focus, f_resW, f_resH, a_kind, a_val, a_tk, a_tv, a_live, a_wasLive, a_rx, a_ry, a_rw, a_rh, a_oldW, a_oldH, a_row, a_col, a_top, a_bot, a_mode, a_p1, a_p2, a_k, a_cells, a_sx, a_sy, a_sw, a_sh, a_mw, a_mh) (nI i) := by
  have he := (P.2.2 i hi).2.1
  have hie := (P.2.2 i hi).1
  unfold wpY_mins
  refine yw_subEnd P hc hcount hi (nm_e ?_)
  refine lp4 (fun n s j mw mh => wY_mins_13 post (nI i) f_count f_hostW f_hostH f_focus f_resW f_resH n (nI s) (nI j - 1) a_kind a_val a_tk a_tv a_live a_wasLive a_rx a_ry a_rw a_rh a_oldW a_oldH a_row a_col a_top a_bot a_mode a_p1 a_p2 a_k a_cells a_sx a_sy a_sw a_sh mw mh) (fun s j mw mh => i ≤ j ∧ j ≤ en i ∧ ps_st en (fun t q => mw t = lw (nd q) ∧ mh t = lh (nd q)) (en i) s j) (fun s j mw mh => j) ?_ 0 (en i) a_mw a_mh ⟨by omega, Nat.le_refl _, rfl⟩
  intro n s j mw mh I IH
  obtain ⟨i1, i2, S⟩ := I
  have l := ps_st_len P he S
  by_cases ji : j = i
  · subst ji
    obtain ⟨t, rfl⟩ := ps_st_pos S hie
    have t0 : t = 0 := ps_st_end S.2.2
    subst t0
    have m := S.2.1
    refine br_t (nI_m1lt (by omega)) (br_f (nI_nle (by omega) (by omega)) (br_f (nI_nle (by omega) (by omega)) (nm_e ?_)))
    have k := K mw mh
    rw [← m.1, ← m.2] at k
    exact k
  · obtain ⟨q, rfl⟩ : ∃ q, j = q + 1 := ⟨j - 1, by omega⟩
    have ep : nI (q + 1) - 1 = nI q := nI_pred q
    have em : nI q + (-1) = nI q - 1 := by rw [Int32.sub_eq_add_neg]
    have hq : q < c := by omega
    show wY_mins_13 post (nI i) f_count f_hostW f_hostH f_focus f_resW f_resH (n + 1) (nI s) (nI (q + 1) - 1) a_kind a_val a_tk a_tv a_live a_wasLive a_rx a_ry a_rw a_rh a_oldW a_oldH a_row a_col a_top a_bot a_mode a_p1 a_p2 a_k a_cells a_sx a_sy a_sw a_sh mw mh
    rw [ep]
    refine br_f (nI_nlt (by omega) (by omega)) (br_f (nI_pos (by omega)) ⟨vi_16 (by omega), ?_⟩)
    rw [cg_16 (by omega)]
    by_cases z : a_kind q = 0
    · refine br_t z (br_f (nI_ge (b := 16) (by omega) (by omega)) ⟨vi_16 (by omega), nm_r (e' := upd mw s 1) (by rw [cg_16 (by omega)]) ⟨vi_16 (by omega), nm_r (e' := upd mh s 1) (by rw [cg_16 (by omega)]) (nm_r (nI_1 s) (nm_r em (IH _ q _ _ ⟨by omega, by omega, ?_⟩ (by omega))))⟩⟩)
      have lq := (L q hq).1 z
      refine ⟨by omega, ⟨by rw [pk_us]; exact lq.1.symm, by rw [pk_us]; exact lq.2.symm⟩, ?_⟩
      rw [ps_lf P hq z]
      exact ps_st_mono (fun t j ht h => by rw [pk_un (by omega), pk_un (by omega)]; exact h) S
    · obtain ⟨a1, a2, a3, a4, a5, a6⟩ := ps_nd P hq z
      have nq := ps_nest P i hi q (by omega) (by omega)
      obtain ⟨t', rfl⟩ := ps_st_pos S (by omega)
      obtain ⟨t, rfl⟩ := ps_st_pos S.2.2 (by omega)
      have m1 := S.2.1
      have m2 := S.2.2.2.1
      have S3 := S.2.2.2.2
      rw [a4] at S3
      have e1 : nI (t + 1 + 1) - 1 = nI (t + 1) := nI_pred (t + 1)
      have e2 : nI (t + 1 + 1) - 2 = nI t := pk_sub (a := t + 2) (b := 2) (by omega)
      have e3 : nI (t + 1 + 1) + (-2) = nI t := by rw [← e2, Int32.sub_eq_add_neg]
      have v1 : vp_in (nI (t + 1 + 1) - 1) 16 := by rw [e1]; exact vi_16 (by omega)
      have v2 : vp_in (nI (t + 1 + 1) - 2) 16 := by rw [e2]; exact vi_16 (by omega)
      have c1 : (nI (t + 1 + 1) - 1).toNatClampNeg = t + 1 := by rw [e1]; exact cg_16 (by omega)
      have c2 : (nI (t + 1 + 1) - 2).toNatClampNeg = t := by rw [e2]; exact cg_16 (by omega)
      refine br_f z (br_f (nI_nlt (b := 2) (by omega) (by omega)) ⟨v1, nm_r (e' := lw (nd (q + 1))) (by rw [c1]; exact m1.1) ⟨v1, nm_r (e' := lh (nd (q + 1))) (by rw [c1]; exact m1.2) ⟨v2, nm_r (e' := lw (nd (en (q + 1)))) (by rw [c2]; exact m2.1) ⟨v2, nm_r (e' := lh (nd (en (q + 1)))) (by rw [c2]; exact m2.2) (nm_r e3 ⟨vi_16 (by omega), ?_⟩)⟩⟩⟩⟩)
      have fin : ∀ x y, x = lw (nd q) → y = lh (nd q) → wY_mins_13 post (nI i) f_count f_hostW f_hostH f_focus f_resW f_resH n (nI (t + 1)) (nI q - 1) a_kind a_val a_tk a_tv a_live a_wasLive a_rx a_ry a_rw a_rh a_oldW a_oldH a_row a_col a_top a_bot a_mode a_p1 a_p2 a_k a_cells a_sx a_sy a_sw a_sh (upd mw t x) (upd mh t y) := by
        intro x y hx hy
        refine IH _ q _ _ ⟨by omega, by omega, ?_⟩ (by omega)
        exact ⟨by omega, ⟨by rw [pk_us]; exact hx, by rw [pk_us]; exact hy⟩, ps_st_mono (fun t' j ht h => by rw [pk_un (by omega), pk_un (by omega)]; exact h) S3⟩
      rw [cg_16 (by omega)]
      obtain ⟨_, l1, l2⟩ := L q hq
      rcases Kd q hq with y | ⟨y | y, _⟩
      · exact absurd y z
      · refine br_t y ⟨vi_16 (by omega), nm_e (yw_max2 _ ⟨vi_16 (by omega), nm_e (nm_r (nI_1 t) (nm_r em (fin _ _ (l1 y).1.symm (l1 y).2.symm)))⟩)⟩
      · refine br_f (fun h => ge_12 h y) (yw_max2 _ ⟨vi_16 (by omega), nm_e ⟨vi_16 (by omega), nm_e (nm_r (nI_1 t) (nm_r em (fin _ _ (l2 y).1.symm (l2 y).2.symm)))⟩⟩)
end YL
