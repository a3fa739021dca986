theorem la_mx2 {x y : Int32} : (y ≤ x → la_mx x y = x) ∧ (¬ y ≤ x → la_mx x y = y) := by
  unfold la_mx
  constructor
  · intro h
    by_cases z : x ≤ y
    · rw [if_pos z]; exact Int32.le_antisymm h z
    · rw [if_neg z]
  · intro h
    rcases Int32.le_total x y with z | z
    · rw [if_pos z]
    · exact absurd z h
theorem la_mn2 {x y : Int32} : (x ≤ y → la_mn x y = x) ∧ (¬ x ≤ y → la_mn x y = y) := by
  unfold la_mn
  constructor
  · intro h
    by_cases z : y ≤ x
    · rw [if_pos z]; exact Int32.le_antisymm z h
    · rw [if_neg z]
  · intro h
    rcases Int32.le_total x y with z | z
    · exact absurd z h
    · rw [if_pos z]
section YM
variable {f_count f_hostW f_hostH f_focus f_resW f_resH : Int32} {a_kind a_val a_tk a_tv a_live a_wasLive a_rx a_ry a_rw a_rh a_oldW a_oldH a_row a_col a_top a_bot a_mode a_p1 a_p2 a_k a_cells a_sx a_sy a_sw a_sh a_mw a_mh : Nat → Int32}
variable {c : Nat} {nd en po : Nat → Nat}
theorem yw_315 {post : Int32 → SY → Prop} {J : _} {x1 x2 fo x y w h v : Int32} {t i : Nat} (ht : t + 1 < 16) (K : J fo (nI (t + 2)) (nI (i + 1)) f_count f_hostW f_hostH f_focus f_resW f_resH a_kind a_val a_tk a_tv a_live a_wasLive a_rx a_ry a_rw a_rh a_oldW a_oldH a_row a_col a_top a_bot a_mode a_p1 a_p2 a_k a_cells (upd (upd a_sx t (x + v + 1)) (t + 1) x) (upd (upd a_sy t y) (t + 1) y) (upd (upd a_sw t (w - v - 1)) (t + 1) v) (upd (upd a_sh t h) (t + 1) h) a_mw a_mh) : wY_layout_315 post J x1 x2 fo (nI t) (nI i) x y w h v f_count f_hostW f_hostH f_focus f_resW f_resH a_kind a_val a_tk a_tv a_live a_wasLive a_rx a_ry a_rw a_rh a_oldW a_oldH a_row a_col a_top a_bot a_mode a_p1 a_p2 a_k a_cells a_sx a_sy a_sw a_sh a_mw a_mh := by
  have v0 : vp_in (nI t) 16 := vi_16 (by omega)
  have v1 : vp_in (nI (t + 1)) 16 := vi_16 (by omega)
  have e0 : (nI t).toNatClampNeg = t := cg_16 (by omega)
  have e1 : (nI (t + 1)).toNatClampNeg = t + 1 := cg_16 (by omega)
  exact ⟨v0, nm_r (e' := upd a_sx t (x + v + 1)) (by rw [e0]) ⟨v0, nm_r (e' := upd a_sy t y) (by rw [e0]) ⟨v0, nm_r (e' := upd a_sw t (w - v - 1)) (by rw [e0]) ⟨v0, nm_r (e' := upd a_sh t h) (by rw [e0]) (nm_r (nI_1 t) ⟨v1, nm_r (e' := upd (upd a_sx t (x + v + 1)) (t + 1) x) (by rw [e1]) ⟨v1, nm_r (e' := upd (upd a_sy t y) (t + 1) y) (by rw [e1]) ⟨v1, nm_r (e' := upd (upd a_sw t (w - v - 1)) (t + 1) v) (by rw [e1]) ⟨v1, nm_r (e' := upd (upd a_sh t h) (t + 1) h) (by rw [e1]) (nm_r (nI_1 (t + 1)) (nm_r (nI_1 i) K))⟩⟩⟩⟩)⟩⟩⟩⟩
theorem yw_482 {post : Int32 → SY → Prop} {J : _} {x1 x2 fo x y w h v : Int32} {t i : Nat} (ht : t + 1 < 16) (K : J fo (nI (t + 2)) (nI (i + 1)) f_count f_hostW f_hostH f_focus f_resW f_resH a_kind a_val a_tk a_tv a_live a_wasLive a_rx a_ry a_rw a_rh a_oldW a_oldH a_row a_col a_top a_bot a_mode a_p1 a_p2 a_k a_cells (upd (upd a_sx t x) (t + 1) x) (upd (upd a_sy t (y + v + 1)) (t + 1) y) (upd (upd a_sw t w) (t + 1) w) (upd (upd a_sh t (h - v - 1)) (t + 1) v) a_mw a_mh) : wY_layout_482 post J x1 x2 fo (nI t) (nI i) x y w h v f_count f_hostW f_hostH f_focus f_resW f_resH a_kind a_val a_tk a_tv a_live a_wasLive a_rx a_ry a_rw a_rh a_oldW a_oldH a_row a_col a_top a_bot a_mode a_p1 a_p2 a_k a_cells a_sx a_sy a_sw a_sh a_mw a_mh := by
  have v0 : vp_in (nI t) 16 := vi_16 (by omega)
  have v1 : vp_in (nI (t + 1)) 16 := vi_16 (by omega)
  have e0 : (nI t).toNatClampNeg = t := cg_16 (by omega)
  have e1 : (nI (t + 1)).toNatClampNeg = t + 1 := cg_16 (by omega)
  exact ⟨v0, nm_r (e' := upd a_sx t x) (by rw [e0]) ⟨v0, nm_r (e' := upd a_sy t (y + v + 1)) (by rw [e0]) ⟨v0, nm_r (e' := upd a_sw t w) (by rw [e0]) ⟨v0, nm_r (e' := upd a_sh t (h - v - 1)) (by rw [e0]) (nm_r (nI_1 t) ⟨v1, nm_r (e' := upd (upd a_sx t x) (t + 1) x) (by rw [e1]) ⟨v1, nm_r (e' := upd (upd a_sy t (y + v + 1)) (t + 1) y) (by rw [e1]) ⟨v1, nm_r (e' := upd (upd a_sw t w) (t + 1) w) (by rw [e1]) ⟨v1, nm_r (e' := upd (upd a_sh t (h - v - 1)) (t + 1) v) (by rw [e1]) (nm_r (nI_1 (t + 1)) (nm_r (nI_1 i) K))⟩⟩⟩⟩)⟩⟩⟩⟩
theorem yw_267 {post : Int32 → SY → Prop} {J : _} {tr tc fo x y w h q z v : Int32} {t i : Nat} (ht : t + 1 < 16) (hv : v = la_mn z (w - 1 - q)) (K : J (if tc = x + v ∧ y ≤ tr ∧ tr < y + h then 124 else fo) (nI (t + 2)) (nI (i + 1)) f_count f_hostW f_hostH f_focus f_resW f_resH a_kind a_val a_tk a_tv a_live a_wasLive a_rx a_ry a_rw a_rh a_oldW a_oldH a_row a_col a_top a_bot a_mode a_p1 a_p2 a_k a_cells (upd (upd a_sx t (x + v + 1)) (t + 1) x) (upd (upd a_sy t y) (t + 1) y) (upd (upd a_sw t (w - v - 1)) (t + 1) v) (upd (upd a_sh t h) (t + 1) h) a_mw a_mh) : wY_layout_267 post J tr tc fo (nI t) (nI i) x y w h q z f_count f_hostW f_hostH f_focus f_resW f_resH a_kind a_val a_tk a_tv a_live a_wasLive a_rx a_ry a_rw a_rh a_oldW a_oldH a_row a_col a_top a_bot a_mode a_p1 a_p2 a_k a_cells a_sx a_sy a_sw a_sh a_mw a_mh := by
  have B : wY_layout_288 post J tr tc fo (nI t) (nI i) x y w h v f_count f_hostW f_hostH f_focus f_resW f_resH a_kind a_val a_tk a_tv a_live a_wasLive a_rx a_ry a_rw a_rh a_oldW a_oldH a_row a_col a_top a_bot a_mode a_p1 a_p2 a_k a_cells a_sx a_sy a_sw a_sh a_mw a_mh := by
    by_cases h1 : tc = x + v
    · refine br_t h1 ?_
      by_cases h2 : tr < y
      · refine br_t h2 (yw_315 ht ?_)
        rw [if_neg (fun c => absurd h2 (Int32.not_lt.mpr c.2.1))] at K
        exact K
      · refine br_f h2 ?_
        by_cases h3 : y + h ≤ tr
        · refine br_t h3 (yw_315 ht ?_)
          rw [if_neg (fun c => absurd c.2.2 (Int32.not_lt.mpr h3))] at K
          exact K
        · refine br_f h3 (yw_315 ht ?_)
          rw [if_pos ⟨h1, Int32.not_lt.mp h2, Int32.not_le.mp h3⟩] at K
          exact K
    · refine br_f h1 (yw_315 ht ?_)
      rw [if_neg (fun c => h1 c.1)] at K
      exact K
  by_cases hz : z ≤ w - 1 - q
  · rw [la_mn2.1 hz] at hv
    subst hv
    exact br_t hz B
  · rw [la_mn2.2 hz] at hv
    exact br_f hz (nm_r hv.symm B)
theorem yw_434 {post : Int32 → SY → Prop} {J : _} {tr tc fo x y w h q z v : Int32} {t i : Nat} (ht : t + 1 < 16) (hv : v = la_mn z (h - 1 - q)) (K : J (if tr = y + v ∧ x ≤ tc ∧ tc < x + w then 45 else fo) (nI (t + 2)) (nI (i + 1)) f_count f_hostW f_hostH f_focus f_resW f_resH a_kind a_val a_tk a_tv a_live a_wasLive a_rx a_ry a_rw a_rh a_oldW a_oldH a_row a_col a_top a_bot a_mode a_p1 a_p2 a_k a_cells (upd (upd a_sx t x) (t + 1) x) (upd (upd a_sy t (y + v + 1)) (t + 1) y) (upd (upd a_sw t w) (t + 1) w) (upd (upd a_sh t (h - v - 1)) (t + 1) v) a_mw a_mh) : wY_layout_434 post J tr tc fo (nI t) (nI i) x y w h q z f_count f_hostW f_hostH f_focus f_resW f_resH a_kind a_val a_tk a_tv a_live a_wasLive a_rx a_ry a_rw a_rh a_oldW a_oldH a_row a_col a_top a_bot a_mode a_p1 a_p2 a_k a_cells a_sx a_sy a_sw a_sh a_mw a_mh := by
  have B : wY_layout_455 post J tr tc fo (nI t) (nI i) x y w h v f_count f_hostW f_hostH f_focus f_resW f_resH a_kind a_val a_tk a_tv a_live a_wasLive a_rx a_ry a_rw a_rh a_oldW a_oldH a_row a_col a_top a_bot a_mode a_p1 a_p2 a_k a_cells a_sx a_sy a_sw a_sh a_mw a_mh := by
    by_cases h1 : tr = y + v
    · refine br_t h1 ?_
      by_cases h2 : tc < x
      · refine br_t h2 (yw_482 ht ?_)
        rw [if_neg (fun c => absurd h2 (Int32.not_lt.mpr c.2.1))] at K
        exact K
      · refine br_f h2 ?_
        by_cases h3 : x + w ≤ tc
        · refine br_t h3 (yw_482 ht ?_)
          rw [if_neg (fun c => absurd c.2.2 (Int32.not_lt.mpr h3))] at K
          exact K
        · refine br_f h3 (yw_482 ht ?_)
          rw [if_pos ⟨h1, Int32.not_lt.mp h2, Int32.not_le.mp h3⟩] at K
          exact K
    · refine br_f h1 (yw_482 ht ?_)
      rw [if_neg (fun c => h1 c.1)] at K
      exact K
  by_cases hz : z ≤ h - 1 - q
  · rw [la_mn2.1 hz] at hv
    subst hv
    exact br_t hz B
  · rw [la_mn2.2 hz] at hv
    exact br_f hz (nm_r hv.symm B)
end YM
