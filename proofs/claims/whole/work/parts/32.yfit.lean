theorem ce_h1 {S Q : Nat → Prop} {lo hi j : Nat} (h : lo ≤ hi) (q : Q hi) : (S j ∨ (lo ≤ j ∧ j < hi + 1 ∧ Q j)) ↔ (S j ∨ (lo ≤ j ∧ j < hi ∧ Q j)) ∨ j = hi := by
  constructor
  · rintro (z | z)
    · exact Or.inl (Or.inl z)
    · by_cases e : j = hi
      · exact Or.inr e
      · exact Or.inl (Or.inr ⟨z.1, by omega, z.2.2⟩)
  · rintro ((z | z) | z)
    · exact Or.inl z
    · exact Or.inr ⟨z.1, by omega, z.2.2⟩
    · subst z; exact Or.inr ⟨h, by omega, q⟩
theorem ce_h2 {S Q : Nat → Prop} {lo hi j : Nat} (q : ¬ Q hi) : (S j ∨ (lo ≤ j ∧ j < hi ∧ Q j)) ↔ (S j ∨ (lo ≤ j ∧ j < hi + 1 ∧ Q j)) := by
  constructor
  · rintro (z | z)
    · exact Or.inl z
    · exact Or.inr ⟨z.1, by omega, z.2.2⟩
  · rintro (z | z)
    · exact Or.inl z
    · by_cases e : j = hi
      · subst e; exact absurd z.2.2 q
      · exact Or.inr ⟨z.1, by omega, z.2.2⟩
section FY
variable {f_count f_hostW f_hostH f_focus f_resW f_resH : Int32} {a_kind a_val a_tk a_tv a_live a_wasLive a_rx a_ry a_rw a_rh a_oldW a_oldH a_row a_col a_top a_bot a_mode a_p1 a_p2 a_k a_cells a_sx a_sy a_sw a_sh a_mw a_mh : Nat → Int32}
theorem yw_rr43 {post : SY → Prop} {J : _} {g r ow oh nw nh kw kh : Nat} {S S' : Nat → Prop} {a : Nat → Int32} (hg : g < 8) (hr : r < 12) (n2 : nw ≤ 24) (n4 : nh ≤ 12) (o1 : ow ≤ 24) (o2 : oh ≤ 12) (k1 : kw = if nw ≤ ow then nw else ow) (k2 : kh = if nh ≤ oh then nh else oh)
    (hS : ∀ j, S' j ↔ S j ∨ (g * 288 + r * 24 ≤ j ∧ j < g * 288 + r * 24 + 24 ∧ (kh ≤ r ∨ kw ≤ j - (g * 288 + r * 24)))) (K : J (nI (r + 1)) a_kind a_val a_tk a_tv a_live a_wasLive a_rx a_ry a_rw a_rh a_oldW a_oldH a_row a_col a_top a_bot a_mode a_p1 a_p2 a_k (ce_w S' a) a_sx a_sy a_sw a_sh a_mw a_mh) :
    ∃ n, wY_resizeRule_43 post J (nI g) (nI ow) (nI oh) (nI nw) (nI nh) (nI r) f_count f_hostW f_hostH f_focus f_resW f_resH n 0 a_kind a_val a_tk a_tv a_live a_wasLive a_rx a_ry a_rw a_rh a_oldW a_oldH a_row a_col a_top a_bot a_mode a_p1 a_p2 a_k (ce_w S a) a_sx a_sy a_sw a_sh a_mw a_mh := by
  refine pk_loop (fun n i s => wY_resizeRule_43 post J (nI g) (nI ow) (nI oh) (nI nw) (nI nh) (nI r) f_count f_hostW f_hostH f_focus f_resW f_resH n (nI i) a_kind a_val a_tk a_tv a_live a_wasLive a_rx a_ry a_rw a_rh a_oldW a_oldH a_row a_col a_top a_bot a_mode a_p1 a_p2 a_k s a_sx a_sy a_sw a_sh a_mw a_mh)
    (fun i s => s = ce_w (fun j => S j ∨ (g * 288 + r * 24 ≤ j ∧ j < g * 288 + r * 24 + i ∧ (kh ≤ r ∨ kw ≤ j - (g * 288 + r * 24)))) a) 24 0 _ (Nat.zero_le _) ?_ ?_ ?_
  · exact ce_we (fun j => ⟨Or.inl, fun z => z.elim id (fun q => by omega)⟩)
  · intro n s hs
    refine br_t (nI_le (a := 24) (Nat.le_refl _) (by omega)) (nm_r (nI_1 r) ?_)
    rw [hs, ce_we (R := S') (fun j => (hS j).symm)]
    exact K
  · intro n i s hi hs k
    have ei := xc_i g r i
    have Q0 : (kh ≤ r ∨ kw ≤ (g * 288 + r * 24 + i) - (g * 288 + r * 24)) ↔ (kh ≤ r ∨ kw ≤ i) := by
      rw [show (g * 288 + r * 24 + i) - (g * 288 + r * 24) = i by omega]
    have BL : (kh ≤ r ∨ kw ≤ i) → wY_resizeRule_76 post J (wY_resizeRule_43 post J (nI g) (nI ow) (nI oh) (nI nw) (nI nh) (nI r) f_count f_hostW f_hostH f_focus f_resW f_resH n) (nI g) (nI ow) (nI oh) (nI nw) (nI nh) (nI r) (nI i) f_count f_hostW f_hostH f_focus f_resW f_resH a_kind a_val a_tk a_tv a_live a_wasLive a_rx a_ry a_rw a_rh a_oldW a_oldH a_row a_col a_top a_bot a_mode a_p1 a_p2 a_k s a_sx a_sy a_sw a_sh a_mw a_mh := by
      intro q
      refine ⟨by rw [ei]; exact vp_in_nI (by omega) (by omega), nm_r (e' := ce_w (fun j => S j ∨ (g * 288 + r * 24 ≤ j ∧ j < g * 288 + r * 24 + (i + 1) ∧ (kh ≤ r ∨ kw ≤ j - (g * 288 + r * 24)))) a) ?_ (nm_r (nI_1 i) (k _ rfl))⟩
      rw [ei, nI_clamp (by omega), nr_32, hs]
      exact ce_wu (fun j => ce_h1 (lo := g * 288 + r * 24) (hi := g * 288 + r * 24 + i) (Q := fun j => kh ≤ r ∨ kw ≤ j - (g * 288 + r * 24)) (by omega) (Q0.mpr q))
    have SK : ¬ (kh ≤ r ∨ kw ≤ i) → wY_resizeRule_43 post J (nI g) (nI ow) (nI oh) (nI nw) (nI nh) (nI r) f_count f_hostW f_hostH f_focus f_resW f_resH n (nI (i + 1)) a_kind a_val a_tk a_tv a_live a_wasLive a_rx a_ry a_rw a_rh a_oldW a_oldH a_row a_col a_top a_bot a_mode a_p1 a_p2 a_k s a_sx a_sy a_sw a_sh a_mw a_mh := by
      intro q
      refine k _ ?_
      rw [hs]
      exact ce_we (fun j => ce_h2 (lo := g * 288 + r * 24) (hi := g * 288 + r * 24 + i) (Q := fun j => kh ≤ r ∨ kw ≤ j - (g * 288 + r * 24)) (fun z => q (Q0.mp z)))
    refine br_f (nI_ge (b := 24) hi (by omega)) ?_
    refine pk_le oh r (fun h => BL (by rw [k2]; split <;> omega)) (fun h => pk_le nh r (fun h' => BL (by rw [k2]; split <;> omega)) (fun h' => pk_le ow i (fun h2 => BL (by rw [k1]; split <;> omega)) (fun h2 => pk_lt i nw (fun h3 => nm_r (nI_1 i) (SK (by rw [k1, k2]; split <;> split <;> omega))) (fun h3 => BL (by rw [k1]; split <;> omega)))))
theorem yw_rr {post : SY → Prop} {g ow oh nw nh kw kh : Nat} (hg : g < 8) (h1 : a_oldW g = nI ow) (h2 : a_oldH g = nI oh) (h3 : a_rw g = nI nw) (h4 : a_rh g = nI nh) (n2 : nw ≤ 24) (n4 : nh ≤ 12) (o1 : ow ≤ 24) (o2 : oh ≤ 12) (k1 : kw = if nw ≤ ow then nw else ow) (k2 : kh = if nh ≤ oh then nh else oh)
    (K : post (f_count, f_hostW, f_hostH, f_focus, f_resW, f_resH, a_kind, a_val, a_tk, a_tv, a_live, a_wasLive, a_rx, a_ry, a_rw, a_rh, a_oldW, a_oldH, upd a_row g (fi_r a_row a_rh g), upd a_col g (fi_r a_col a_rw g), upd a_top g (fi_t a_top a_bot a_rh g), upd a_bot g (fi_b a_bot a_rh g), a_mode, a_p1, a_p2, a_k, ce_w (fun j => g * 288 ≤ j ∧ j < g * 288 + 288 ∧ (kh ≤ (j - g * 288) / 24 ∨ kw ≤ (j - g * 288) % 24)) a_cells, a_sx, a_sy, a_sw, a_sh, a_mw, a_mh)) : wpY_resizeRule post (f_count, f_hostW, f_hostH, f_focus, f_resW, f_resH, a_kind, a_val, a_tk, a_tv, a_live, a_wasLive, a_rx, a_ry, a_rw, a_rh, a_oldW, a_oldH, a_row, a_col, a_top, a_bot, a_mode, a_p1, a_p2, a_k, a_cells, a_sx, a_sy, a_sw, a_sh, a_mw, a_mh) (nI g) := by
  have v8 := vi_8 hg
  have e := cg_8 hg
  refine ⟨v8, nm_r (e' := nI ow) (by rw [e]; exact h1) ⟨v8, nm_r (e' := nI oh) (by rw [e]; exact h2) ⟨v8, nm_r (e' := nI nw) (by rw [e]; exact h3) ⟨v8, nm_r (e' := nI nh) (by rw [e]; exact h4) ?_⟩⟩⟩⟩
  refine pk_loop (fun n i s => wY_resizeRule_33 post (nI g) (nI ow) (nI oh) (nI nw) (nI nh) f_count f_hostW f_hostH f_focus f_resW f_resH n (nI i) a_kind a_val a_tk a_tv a_live a_wasLive a_rx a_ry a_rw a_rh a_oldW a_oldH a_row a_col a_top a_bot a_mode a_p1 a_p2 a_k s a_sx a_sy a_sw a_sh a_mw a_mh)
    (fun i s => s = ce_w (fun j => g * 288 ≤ j ∧ j < g * 288 + i * 24 ∧ (kh ≤ (j - g * 288) / 24 ∨ kw ≤ (j - g * 288) % 24)) a_cells) 12 0 _ (Nat.zero_le _) ?_ ?_ ?_
  · exact (ce_w0 (fun j z => by omega)).symm
  · intro n s hs
    refine br_t (nI_le (a := 12) (Nat.le_refl _) (by omega)) ⟨v8, yw_min2 _ ⟨v8, nm_r (e' := upd a_row g (fi_r a_row a_rh g)) (by unfold fi_r; rw [e, h4]) ⟨v8, yw_min2 _ ⟨v8, nm_r (e' := upd a_col g (fi_r a_col a_rw g)) (by unfold fi_r; rw [e, h3]) ⟨v8, ?_⟩⟩⟩⟩⟩
    rw [e, hs]
    by_cases z : a_bot g ≤ nI nh - 1
    · refine br_t z ?_
      have q : ¬ nI nh - 1 < a_bot g := Int32.not_lt.mpr z
      have e1 : fi_t a_top a_bot a_rh g = a_top g := by unfold fi_t; rw [h4, if_neg q]
      have e2 : fi_b a_bot a_rh g = a_bot g := by unfold fi_b; rw [h4, if_neg q]
      rw [e1, e2, pk_uu, pk_uu] at K
      exact K
    · have q : nI nh - 1 < a_bot g := Int32.not_le.mp z
      exact br_f z ⟨v8, nm_r (e' := upd a_top g (fi_t a_top a_bot a_rh g)) (by unfold fi_t; rw [h4, if_pos q]) ⟨v8, nm_r (e' := upd a_bot g (fi_b a_bot a_rh g)) (by unfold fi_b; rw [h4, if_pos q]) K⟩⟩
  · intro n i s hi hs k
    subst hs
    refine br_f (nI_ge (b := 12) hi (by omega)) (yw_rr43 hg hi n2 n4 o1 o2 k1 k2 (S' := fun j => g * 288 ≤ j ∧ j < g * 288 + (i + 1) * 24 ∧ (kh ≤ (j - g * 288) / 24 ∨ kw ≤ (j - g * 288) % 24)) (fun j => ?_) (k _ rfl))
    constructor <;> intro z <;> omega
theorem yw_save {post : SY → Prop} (hl : ∀ p, p < 8 → a_live p = 0 ∨ a_live p = 1) (K : ∀ wl ow oh, (∀ p, p < 8 → wl p = a_live p ∧ ow p = a_rw p ∧ oh p = a_rh p) → post (f_count, f_hostW, f_hostH, f_focus, f_resW, f_resH, a_kind, a_val, a_tk, a_tv, a_live, wl, a_rx, a_ry, a_rw, a_rh, ow, oh, a_row, a_col, a_top, a_bot, a_mode, a_p1, a_p2, a_k, a_cells, a_sx, a_sy, a_sw, a_sh, a_mw, a_mh)) : wpY_saveOld post (f_count, f_hostW, f_hostH, f_focus, f_resW, f_resH, a_kind, a_val, a_tk, a_tv, a_live, a_wasLive, a_rx, a_ry, a_rw, a_rh, a_oldW, a_oldH, a_row, a_col, a_top, a_bot, a_mode, a_p1, a_p2, a_k, a_cells, a_sx, a_sy, a_sw, a_sh, a_mw, a_mh) := by
  refine pk_loop (fun n i (s : (Nat → Int32) × (Nat → Int32) × (Nat → Int32)) => wY_saveOld_2 post f_count f_hostW f_hostH f_focus f_resW f_resH n (nI i) a_kind a_val a_tk a_tv a_live s.1 a_rx a_ry a_rw a_rh s.2.1 s.2.2 a_row a_col a_top a_bot a_mode a_p1 a_p2 a_k a_cells a_sx a_sy a_sw a_sh a_mw a_mh)
    (fun i s => ∀ p, p < i → s.1 p = a_live p ∧ s.2.1 p = a_rw p ∧ s.2.2 p = a_rh p) 8 0 (a_wasLive, a_oldW, a_oldH) (Nat.zero_le _) (fun p h => by omega) ?_ ?_
  · intro n s hs
    exact br_t (nI_le (a := 8) (Nat.le_refl _) (by omega)) (K _ _ _ hs)
  · intro n i s hi hs k
    obtain ⟨wl, ow, oh⟩ := s
    have v8 := vi_8 hi
    have e := cg_8 hi
    have eb : vp_nar .boolean (a_live i) = a_live i := by
      rcases hl i hi with h | h
      · rw [h]; exact nr_b0
      · rw [h]; exact nr_b1
    refine br_f (nI_ge (b := 8) hi (by omega)) ⟨v8, v8, nm_r (e' := upd wl i (a_live i)) (by rw [e, eb]) ⟨v8, v8, nm_r (e' := upd ow i (a_rw i)) (by rw [e]) ⟨v8, v8, nm_r (e' := upd oh i (a_rh i)) (by rw [e]) (nm_r (nI_1 i) (k (upd wl i (a_live i), upd ow i (a_rw i), upd oh i (a_rh i)) ?_))⟩⟩⟩
    intro p hp
    dsimp only
    by_cases z : p = i
    · subst z; rw [pk_us, pk_us, pk_us]; exact ⟨rfl, rfl, rfl⟩
    · rw [pk_un z, pk_un z, pk_un z]; exact hs p (by omega)
theorem yw_fin9 {post : SY → Prop} {dv : Nat → Int32} {kw kh : Nat → Nat} (D : ∀ g, g < 8 → ((a_wasLive g ≠ 0 ∧ a_live g ≠ 0) ↔ dv g ≠ 0)) (F : fi_F dv a_oldW a_oldH a_rw a_rh kw kh)
    (K : post (f_count, f_hostW, f_hostH, f_focus, f_resW, f_resH, a_kind, a_val, a_tk, a_tv, a_live, a_wasLive, a_rx, a_ry, a_rw, a_rh, a_oldW, a_oldH, fi_A dv 8 (fi_r a_row a_rh) a_row, fi_A dv 8 (fi_r a_col a_rw) a_col, fi_A dv 8 (fi_t a_top a_bot a_rh) a_top, fi_A dv 8 (fi_b a_bot a_rh) a_bot, a_mode, a_p1, a_p2, a_k, ce_w (fi_S dv kw kh 8) a_cells, a_sx, a_sy, a_sw, a_sh, a_mw, a_mh)) : ∃ n, wY_finish_9 post n 0 f_count f_hostW f_hostH f_focus f_resW f_resH a_kind a_val a_tk a_tv a_live a_wasLive a_rx a_ry a_rw a_rh a_oldW a_oldH a_row a_col a_top a_bot a_mode a_p1 a_p2 a_k a_cells a_sx a_sy a_sw a_sh a_mw a_mh := by
  have main : ∀ d i, i + d = 8 → wY_finish_9 post (d + 1) (nI i) f_count f_hostW f_hostH f_focus f_resW f_resH a_kind a_val a_tk a_tv a_live a_wasLive a_rx a_ry a_rw a_rh a_oldW a_oldH (fi_A dv i (fi_r a_row a_rh) a_row) (fi_A dv i (fi_r a_col a_rw) a_col) (fi_A dv i (fi_t a_top a_bot a_rh) a_top) (fi_A dv i (fi_b a_bot a_rh) a_bot) a_mode a_p1 a_p2 a_k (ce_w (fi_S dv kw kh i) a_cells) a_sx a_sy a_sw a_sh a_mw a_mh := by
    intro d
    induction d with
    | zero =>
      intro i hi
      have e : i = 8 := by omega
      subst e
      exact br_t (nI_le (a := 8) (Nat.le_refl _) (by omega)) K
    | succ d ih =>
      intro i hi
      have h8 : i < 8 := by omega
      have IH := ih (i + 1) (by omega)
      refine br_f (nI_ge (b := 8) h8 (by omega)) ⟨vi_8 h8, ?_⟩
      rw [cg_8 h8]
      by_cases zz : dv i = 0
      · rw [fi_Ak (Or.inl zz), fi_Ak (Or.inl zz), fi_Ak (Or.inl zz), fi_Ak (Or.inl zz), fi_Sk zz] at IH
        by_cases z : a_wasLive i = 0
        · exact br_t z (nm_r (nI_1 i) IH)
        · by_cases y : a_live i = 0
          · exact br_f z ⟨vi_8 h8, br_t y (nm_r (nI_1 i) IH)⟩
          · exact absurd zz ((D i h8).mp ⟨z, y⟩)
      · obtain ⟨z, y⟩ := (D i h8).mpr zz
        obtain ⟨ow, oh, nw, nh, f1, f2, f3, f4, f5, f6, f7, f8, f9, f10, f11, f12⟩ := F i h8 zz
        refine br_f z ⟨vi_8 h8, br_f y (yw_rr (ow := ow) (oh := oh) (nw := nw) (nh := nh) (kw := kw i) (kh := kh i) h8 f1 f2 f3 f4 f6 f8 f9 f10 f11 f12 (nm_r (nI_1 i) ?_))⟩
        have r1 : fi_r (fi_A dv i (fi_r a_row a_rh) a_row) a_rh i = fi_r a_row a_rh i := by unfold fi_r; rw [fi_Ao (Nat.le_refl _)]
        have r2 : fi_r (fi_A dv i (fi_r a_col a_rw) a_col) a_rw i = fi_r a_col a_rw i := by unfold fi_r; rw [fi_Ao (Nat.le_refl _)]
        have r3 : fi_t (fi_A dv i (fi_t a_top a_bot a_rh) a_top) (fi_A dv i (fi_b a_bot a_rh) a_bot) a_rh i = fi_t a_top a_bot a_rh i := by unfold fi_t; rw [fi_Ao (Nat.le_refl _), fi_Ao (Nat.le_refl _)]
        have r4 : fi_b (fi_A dv i (fi_b a_bot a_rh) a_bot) a_rh i = fi_b a_bot a_rh i := by unfold fi_b; rw [fi_Ao (Nat.le_refl _)]
        rw [fi_Au zz r1, fi_Au zz r2, fi_Au zz r3, fi_Au zz r4, fi_Su zz (fun j => Iff.rfl)]
        exact IH
  have m := main 8 0 (by omega)
  rw [fi_A0, fi_A0, fi_A0, fi_A0, fi_S0] at m
  exact ⟨9, m⟩
end FY
