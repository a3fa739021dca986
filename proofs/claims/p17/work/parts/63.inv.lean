/-- 1 where no pane holds the cell -/
noncomputable def iv_b (lv rx ry rw rh : Nat → Int32) (r s : Nat) : Nat := cc_b (∀ g, g < 8 → lv g ≠ 0 → ¬ vw_in rx ry rw rh g r s)
def iv_n (lv rx ry rw rh : Nat → Int32) (g r s : Nat) : Nat := if lv g = 0 then 0 else if (vw_n ry g ≤ r ∧ r < vw_n ry g + vw_n rh g) ∧ (vw_n rx g ≤ s ∧ s < vw_n rx g + vw_n rw g) then 1 else 0
def iv_A (lv rw rh : Nat → Int32) : Nat → Nat := sm_f (fun g => if lv g = 0 then 0 else vw_n rw g * vw_n rh g)
noncomputable def iv_B (lv rx ry rw rh : Nat → Int32) (w0 : Nat) : Nat → Nat := sm_f (fun r => sm_f (fun s => iv_b lv rx ry rw rh r s) w0)
theorem iv_one {c : Nat} {nd en po : Nat → Nat} {w0 h0 : Nat} {root : Int32} {pa fi se ori sh lw lh rx ry rw rh kd vl lv : Nat → Int32} (G : rl_G c nd en po w0 h0 root pa fi se ori sh lw lh rx ry rw rh kd vl lv) (r s : Nat) : iv_b lv rx ry rw rh r s + sm_f (fun g => iv_n lv rx ry rw rh g r s) 8 = 1 := by
  have n1 : ∀ g, iv_n lv rx ry rw rh g r s = 1 ↔ lv g ≠ 0 ∧ vw_in rx ry rw rh g r s := by
    intro g
    unfold iv_n vw_in
    by_cases z : lv g = 0
    · rw [if_pos z]; exact ⟨fun y => by omega, fun y => absurd z y.1⟩
    · rw [if_neg z]
      by_cases y : (vw_n ry g ≤ r ∧ r < vw_n ry g + vw_n rh g) ∧ (vw_n rx g ≤ s ∧ s < vw_n rx g + vw_n rw g)
      · rw [if_pos y]; exact ⟨fun _ => ⟨z, y⟩, fun _ => rfl⟩
      · rw [if_neg y]; exact ⟨fun x => by omega, fun x => absurd x.2 y⟩
  have n01 : ∀ g, iv_n lv rx ry rw rh g r s = 0 ∨ iv_n lv rx ry rw rh g r s = 1 := by
    intro g
    unfold iv_n
    split
    · exact Or.inl rfl
    · split
      · exact Or.inr rfl
      · exact Or.inl rfl
  rcases sm_one (f := fun g => iv_n lv rx ry rw rh g r s) (n := 8) (fun g _ => n01 g) (fun g g' hg hg' h h' => vw_un G hg ((n1 g).mp h).1 hg' ((n1 g').mp h').1 ((n1 g).mp h).2 ((n1 g').mp h').2) with ⟨a, b⟩ | ⟨a, g, hg, b⟩
  · rw [a]
    unfold iv_b
    rw [cc_bt]
    intro g hg hl hin
    have z := b g hg
    have o := (n1 g).mpr ⟨hl, hin⟩
    try dsimp only at z
    omega
  · rw [a]
    unfold iv_b
    rw [cc_bf]
    intro no
    exact no g hg ((n1 g).mp b).1 ((n1 g).mp b).2
theorem iv_cnt {c : Nat} {nd en po : Nat → Nat} {w0 h0 : Nat} {root : Int32} {pa fi se ori sh lw lh rx ry rw rh kd vl lv : Nat → Int32} (G : rl_G c nd en po w0 h0 root pa fi se ori sh lw lh rx ry rw rh kd vl lv) : iv_B lv rx ry rw rh w0 h0 + iv_A lv rw rh 8 = h0 * w0 := by
  have e1 : iv_A lv rw rh 8 = sm_f (fun g => sm_f (fun r => sm_f (fun s => iv_n lv rx ry rw rh g r s) w0) h0) 8 := by
    unfold iv_A
    refine sm_c (fun g hg => ?_)
    unfold iv_n
    by_cases z : lv g = 0
    · rw [if_pos z]
      have : sm_f (fun r => sm_f (fun s => if lv g = 0 then 0 else if (vw_n ry g ≤ r ∧ r < vw_n ry g + vw_n rh g) ∧ (vw_n rx g ≤ s ∧ s < vw_n rx g + vw_n rw g) then 1 else 0) w0) h0 = sm_f (fun _ => 0) h0 := sm_c (fun r _ => by
        have : sm_f (fun s => if lv g = 0 then 0 else if (vw_n ry g ≤ r ∧ r < vw_n ry g + vw_n rh g) ∧ (vw_n rx g ≤ s ∧ s < vw_n rx g + vw_n rw g) then 1 else 0) w0 = sm_f (fun _ => 0) w0 := sm_c (fun s _ => by rw [if_pos z])
        rw [this, sm_k, Nat.mul_zero])
      rw [this, sm_k, Nat.mul_zero]
    · rw [if_neg z]
      obtain ⟨s1, s2, s3, s4, s5, s6, s7, s8, s9, s10⟩ := vw_sz G hg z
      have : sm_f (fun r => sm_f (fun s => if lv g = 0 then 0 else if (vw_n ry g ≤ r ∧ r < vw_n ry g + vw_n rh g) ∧ (vw_n rx g ≤ s ∧ s < vw_n rx g + vw_n rw g) then 1 else 0) w0) h0 = sm_f (fun r => sm_f (fun s => if (vw_n ry g ≤ r ∧ r < vw_n ry g + vw_n rh g) ∧ (vw_n rx g ≤ s ∧ s < vw_n rx g + vw_n rw g) then 1 else 0) w0) h0 := sm_c (fun r _ => sm_c (fun s _ => by rw [if_neg z]))
      rw [this, sm_rect s7 s8]
  have e2 : sm_f (fun g => sm_f (fun r => sm_f (fun s => iv_n lv rx ry rw rh g r s) w0) h0) 8 = sm_f (fun r => sm_f (fun s => sm_f (fun g => iv_n lv rx ry rw rh g r s) 8) w0) h0 := by
    rw [sm_sw (fun g r => sm_f (fun s => iv_n lv rx ry rw rh g r s) w0) h0 8]
    exact sm_c (fun r _ => sm_sw (fun g s => iv_n lv rx ry rw rh g r s) w0 8)
  rw [e1, e2]
  unfold iv_B
  rw [← sm_a]
  have e3 : sm_f (fun r => sm_f (fun s => iv_b lv rx ry rw rh r s) w0 + sm_f (fun s => sm_f (fun g => iv_n lv rx ry rw rh g r s) 8) w0) h0 = sm_f (fun _ => w0) h0 := by
    refine sm_c (fun r _ => ?_)
    rw [← sm_a]
    have : sm_f (fun s => iv_b lv rx ry rw rh r s + sm_f (fun g => iv_n lv rx ry rw rh g r s) 8) w0 = sm_f (fun _ => 1) w0 := sm_c (fun s _ => iv_one G r s)
    rw [this, sm_k, Nat.mul_one]
  rw [e3, sm_k]
theorem iv_bb {lv rx ry rw rh : Nat → Int32} {r s : Nat} : ((∀ g, g < 8 → lv g ≠ 0 → ¬ vw_in rx ry rw rh g r s) → iv_b lv rx ry rw rh r s = 1) ∧ (∀ g, g < 8 → lv g ≠ 0 → vw_in rx ry rw rh g r s → iv_b lv rx ry rw rh r s = 0) :=
  ⟨fun h => cc_bt h, fun g hg hl hin => cc_bf (fun h => h g hg hl hin)⟩
section IV
variable {f_hostWidth f_hostHeight f_root f_focusedPane f_liveCount : Int32} {a_parent a_first a_second a_orientation a_share a_leastWidth a_leastHeight a_rectX a_rectY a_rectW a_rectH a_order a_live a_screenWidth a_screenHeight a_cursorRow a_cursorCol a_regionTop a_regionBottom a_parserMode a_paramOne a_paramTwo a_paramIndex a_cells : Nat → Int32}
variable {c : Nat} {kd vl : Nat → Int32} {nd en po : Nat → Nat} {w0 h0 : Nat}
/-- one cell of the host, looked at by the law -/
theorem iv_cell {post : Int32 → Prop} {J280 J289 : Int32 → Int32 → Prop} {x1 x2 x4 : Int32} {r s b : Nat} (V : ov_V f_hostWidth f_hostHeight f_root f_focusedPane f_liveCount a_parent a_first a_second a_orientation a_share a_leastWidth a_leastHeight a_rectX a_rectY a_rectW a_rectH a_order a_live a_screenWidth a_screenHeight a_cursorRow a_cursorCol a_regionTop a_regionBottom a_parserMode a_paramOne a_paramTwo a_paramIndex a_cells c kd vl nd en po w0 h0) (hr : r < h0) (hs : s < w0) (K : J289 (nI (b + iv_b a_live a_rectX a_rectY a_rectW a_rectH r s)) (nI (s + 1))) :
    wpX_hostOwner (fun r_14 => ∃ n, wL_invariants_311 post J280 J289 x1 x2 x4 (nI b) (nI r) (nI s) r_14 f_hostWidth f_hostHeight f_root f_focusedPane f_liveCount a_parent a_first a_second a_orientation a_share a_leastWidth a_leastHeight a_rectX a_rectY a_rectW a_rectH a_order a_live a_screenWidth a_screenHeight a_cursorRow a_cursorCol a_regionTop a_regionBottom a_parserMode a_paramOne a_paramTwo a_paramIndex a_cells n (-1) 0) (f_hostWidth, f_hostHeight, f_root, f_focusedPane, f_liveCount, a_parent, a_first, a_second, a_orientation, a_share, a_leastWidth, a_leastHeight, a_rectX, a_rectY, a_rectW, a_rectH, a_order, a_live, a_screenWidth, a_screenHeight, a_cursorRow, a_cursorCol, a_regionTop, a_regionBottom, a_parserMode, a_paramOne, a_paramTwo, a_paramIndex, a_cells) (nI r) (nI s) := by
  have V0 := V
  obtain ⟨rfl, rfl, _, G, S⟩ := V
  have b1 := G.2.2.2.2.1
  have b2 := G.2.2.2.2.2.2.1
  refine xo_own G hr hs (fun g hg hl hin => ?_) (fun no => ?_)
  · rw [iv_bb.2 g hg hl hin, Nat.add_zero] at K
    obtain ⟨s1, s2, s3, s4, s5, s6, s7, s8, s9, s10⟩ := vw_sz G hg hl
    obtain ⟨c1, c2, c3⟩ := S g hg hl
    have hin' := hin
    unfold vw_in at hin'
    have main : ∀ dd i, i + dd = 8 → wL_invariants_311 post J280 J289 x1 x2 x4 (nI b) (nI r) (nI s) (nI g) (nI w0) (nI h0) f_root f_focusedPane f_liveCount a_parent a_first a_second a_orientation a_share a_leastWidth a_leastHeight a_rectX a_rectY a_rectW a_rectH a_order a_live a_screenWidth a_screenHeight a_cursorRow a_cursorCol a_regionTop a_regionBottom a_parserMode a_paramOne a_paramTwo a_paramIndex a_cells (dd + 1) (if g < i then nI g else -1) (nI i) := by
      intro dd
      induction dd with
      | zero =>
        intro i hi
        have e : i = 8 := by omega
        subst e
        rw [if_pos hg]
        refine br_t (nI_le (a := 8) (Nat.le_refl _) (by omega)) (xo_hcin V0 hg hl hin ?_)
        refine br_f (tr_m1 (by omega)) (br_f (nI_pos (by omega)) (br_t rfl (xr_0 hg hl (xr_1 hg hl ?_))))
        rw [s1, s2, pk_sub (by omega), pk_sub (by omega)]
        exact xo_pc (w := vw_n a_rectW g) (h := vw_n a_rectH g) hg hl (c1.trans s3) (c2.trans s4) (by omega) (by omega) c3 (by omega) (by omega) (br_t rfl (nm_r (nI_1 s) K))
      | succ dd ih =>
        intro i hi
        have h8 : i < 8 := by omega
        have IH := ih (i + 1) (by omega)
        refine br_f (nI_ge (b := 8) h8 (by omega)) (xo_rect V0 (by omega) (by omega) (fun g' hg' e' hl' hin2 => ?_) (fun no => ?_))
        · have eg : g' = g := vw_un G hg' hl' hg hl hin2 hin
          subst eg
          have ei : i = g' := (nI_eq (by omega) (by omega)).mp e'
          subst ei
          rw [if_pos (by omega)] at IH
          exact br_f (by decide) (nm_r (nI_1 i) IH)
        · have ne : i ≠ g := fun e => no g hg (by rw [e]) hl hin
          have ei : (if g < i + 1 then nI g else (-1 : Int32)) = if g < i then nI g else -1 := by
            by_cases y : g < i
            · rw [if_pos y, if_pos (by omega)]
            · rw [if_neg y, if_neg (by omega)]
          rw [ei] at IH
          exact br_t rfl (nm_r (nI_1 i) IH)
    have m := main 8 0 (by omega)
    rw [if_neg (by omega)] at m
    exact ⟨9, m⟩
  · rw [iv_bb.1 no] at K
    obtain ⟨X, Y, W, H, mw, mh, N, GG⟩ := rl_nat G
    obtain ⟨j, jc, bd⟩ := vw_bd G N GG hr hs no
    have main : ∀ dd i, i + dd = 8 → wL_invariants_311 post J280 J289 x1 x2 x4 (nI b) (nI r) (nI s) (-1) (nI w0) (nI h0) f_root f_focusedPane f_liveCount a_parent a_first a_second a_orientation a_share a_leastWidth a_leastHeight a_rectX a_rectY a_rectW a_rectH a_order a_live a_screenWidth a_screenHeight a_cursorRow a_cursorCol a_regionTop a_regionBottom a_parserMode a_paramOne a_paramTwo a_paramIndex a_cells (dd + 1) (-1) (nI i) := by
      intro dd
      induction dd with
      | zero =>
        intro i hi
        refine br_t (nI_le (a := 8) (by omega) (by omega)) (xo_hcbd V0 N GG hr hs no jc bd (br_t rfl (br_t rfl ?_)))
        by_cases kj : kd j = 1
        · rw [if_pos kj]
          exact br_t rfl (nm_r (nI_1 b) (nm_r (nI_1 s) K))
        · rw [if_neg kj]
          exact br_f (by decide) (br_t rfl (nm_r (nI_1 b) (nm_r (nI_1 s) K)))
      | succ dd ih =>
        intro i hi
        exact br_f (nI_ge (b := 8) (by omega) (by omega)) (xo_rect V0 (by omega) (by omega) (fun g' hg' e' hl' hin2 => absurd hin2 (no g' hg' hl')) (fun _ => br_t rfl (nm_r (nI_1 i) (ih (i + 1) (by omega)))))
    exact ⟨9, main 8 0 (by omega)⟩
end IV
