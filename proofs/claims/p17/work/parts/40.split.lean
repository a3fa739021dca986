theorem rl_Gcg {c : Nat} {nd en po : Nat → Nat} {w0 h0 : Nat} {root : Int32} {pa fi se ori sr lw lh rx ry rw rh kd vl lv kd' vl' : Nat → Int32} (hk : ∀ j, j < c → kd' j = kd j) (hv : ∀ j, j < c → vl' j = vl j) (G : rl_G c nd en po w0 h0 root pa fi se ori sr lw lh rx ry rw rh kd vl lv) : rl_G c nd en po w0 h0 root pa fi se ori sr lw lh rx ry rw rh kd' vl' lv := by
  obtain ⟨T, L, E, g1, g2, g3, g4, g5, g6, g7⟩ := G
  obtain ⟨P, T2, T3, T4, T5, T6, T7⟩ := T
  refine ⟨⟨⟨P.1, P.2.1, fun i hi => by rw [hk i hi]; exact P.2.2 i hi⟩, T2, T3, T4, fun i hi => by rw [hk i hi, hv i hi]; exact T5 i hi, fun i hi => ?_, T7⟩, fun i hi => ?_, ⟨E.1, E.2.1, E.2.2.1, E.2.2.2.1, fun i hi => ?_⟩, g1, g2, g3, g4, g5, g6, g7⟩
  · unfold tr_t; rw [hk i hi, hv i hi]; exact T6 i hi
  · unfold la_l; rw [hk i hi]; exact L i hi
  · unfold la_e; rw [hk i hi, hv i hi]; exact E.2.2.2.2 i hi
theorem lv_split {c p N g : Nat} {nd : Nat → Nat} {lv : Nat → Int32} (V : lv_R c nd lv) (hp : p < c) (hN : 8 ≤ N) (hg : g < 8) (h0 : lv g = 0) : lv_R (c + 2) (sp_f p N (nd p) g nd) (upd lv g 1) := by
  intro x hx
  by_cases z : x = g
  · subst z
    rw [pk_us]
    exact ⟨Or.inr rfl, fun _ => ⟨p + 2, by omega, sp_f2⟩, fun _ => by decide⟩
  · rw [pk_un z]
    refine ⟨(V x hx).1, fun h => ?_, fun h => ?_⟩
    · obtain ⟨i, hi, e⟩ := (V x hx).2.mp h
      by_cases y : i = p
      · subst y; exact ⟨i + 1, by omega, by rw [sp_f1]; exact e⟩
      · exact ⟨sp_s p i, by unfold sp_s; split <;> omega, by rw [sp_fs y]; exact e⟩
    · obtain ⟨i', hi', e⟩ := h
      rcases sp_cov hp hi' with e1 | e1 | ⟨i, hi, e1⟩
      · subst e1; rw [sp_f1] at e; exact (V x hx).2.mpr ⟨p, hp, e⟩
      · subst e1; rw [sp_f2] at e; exact absurd e.symm z
      · subst e1
        by_cases y : i = p
        · subst y; rw [sp_sl (Nat.le_refl _), sp_f0] at e; omega
        · rw [sp_fs y] at e; exact (V x hx).2.mpr ⟨i, hi, e⟩
theorem sp_T {c p N g : Nat} {nd en po : Nat → Nat} {root root' o : Int32} {pa fi se ori sh kd vl fi' se' : Nat → Int32} (T : tr_T c nd en po root pa fi se ori sh kd vl)
    (hc : c ≤ 13) (hp : p < c) (hk : kd p = 0) (ho : o = 1 ∨ o = 2) (hN : 8 ≤ N ∧ N < 15) (hN' : ∀ i, i < c → nd i ≠ N) (hg : g < 8) (hg' : ∀ i, i < c → nd i ≠ g) (S : pu_S c nd en kd fi se fi' se' root root' (nI N) p) :
    tr_T (c + 2) (sp_f p N (nd p) g nd) (sp_f p (p + 3) (p + 2) (p + 3) (fun j => sp_s p (en j))) (fun n => if n = N then p else if n = nd p then p + 1 else if n = g then p + 2 else sp_s p (po n)) root' (upd (upd (upd pa N (pa (nd p))) (nd p) (nI N)) g (nI N)) (upd fi' N (nI (nd p))) (upd se' N (nI g)) (upd ori N o) (upd sh N 50) (sp_f p o 0 0 kd) (sp_f p 50 (nI (nd p)) (nI g) vl) := by
  obtain ⟨S1, S2, S3, S4⟩ := S
  have gN : g ≠ N := by omega
  have pN := hN' p hp
  have pg := hg' p hp
  refine tr_split T hc hp hk ho hN hN' hg hg' (fun j _ => rfl) (fun j _ => rfl) S1 (fun j hj hkj => ?_) pk_us (fun j hj hkj => ?_) pk_us (fun j hj hjp => ?_) ?_ ?_ pk_us (fun n hn => pk_un hn) pk_us (fun n hn => pk_un hn) pk_us
  · rw [pk_un (hN' j hj)]; exact S2 j hj hkj
  · rw [pk_un (hN' j hj)]; exact S3 j hj hkj
  · rw [pk_un (hg' j hj), pk_un (fun e => hjp (tr_inj T hj hp e)), pk_un (hN' j hj)]
  · rw [pk_un (fun e => gN e.symm), pk_un (fun e => pN e.symm), pk_us]
  · rw [pk_un pg, pk_us]
section SP
variable {f_hostWidth f_hostHeight f_root f_focusedPane f_liveCount : Int32} {a_parent a_first a_second a_orientation a_share a_leastWidth a_leastHeight a_rectX a_rectY a_rectW a_rectH a_order a_live a_screenWidth a_screenHeight a_cursorRow a_cursorCol a_regionTop a_regionBottom a_parserMode a_paramOne a_paramTwo a_paramIndex a_cells : Nat → Int32}
variable {c : Nat} {nd en po : Nat → Nat} {kd vl : Nat → Int32}
theorem xw_lfree {post : Int32 → Prop} (K0 : (∀ g, g < 8 → a_live g ≠ 0) → post (-1)) (K1 : ∀ g, g < 8 → a_live g = 0 → (∀ i, i < g → a_live i ≠ 0) → post (nI g)) : wpX_leastFreePane post (f_hostWidth, f_hostHeight, f_root, f_focusedPane, f_liveCount, a_parent, a_first, a_second, a_orientation, a_share, a_leastWidth, a_leastHeight, a_rectX, a_rectY, a_rectW, a_rectH, a_order, a_live, a_screenWidth, a_screenHeight, a_cursorRow, a_cursorCol, a_regionTop, a_regionBottom, a_parserMode, a_paramOne, a_paramTwo, a_paramIndex, a_cells) := by
  have main : ∀ dd i, i + dd = 8 → (∀ j, j < i → a_live j ≠ 0) → wX_leastFreePane_2 post f_hostWidth f_hostHeight f_root f_focusedPane f_liveCount a_parent a_first a_second a_orientation a_share a_leastWidth a_leastHeight a_rectX a_rectY a_rectW a_rectH a_order a_live a_screenWidth a_screenHeight a_cursorRow a_cursorCol a_regionTop a_regionBottom a_parserMode a_paramOne a_paramTwo a_paramIndex a_cells (dd + 1) (nI i) := by
    intro dd
    induction dd with
    | zero =>
      intro i hi h
      have e : i = 8 := by omega
      subst e
      exact br_t (nI_le (a := 8) (Nat.le_refl _) (by omega)) (K0 h)
    | succ dd ih =>
      intro i hi h
      have h8 : i < 8 := by omega
      refine br_f (nI_ge (b := 8) h8 (by omega)) ⟨vi_8 h8, ?_⟩
      rw [cg_8 h8]
      by_cases z : a_live i = 0
      · exact br_t z (K1 i h8 z h)
      · refine br_f z (nm_r (nI_1 i) (ih (i + 1) (by omega) (fun j hj => ?_)))
        by_cases y : j = i
        · rw [y]; exact z
        · exact h j (by omega)
  exact ⟨9, main 8 0 (by omega) (fun j hj => by omega)⟩
theorem xw_fnode {post : Int32 → Prop} (T : tr_T c nd en po f_root a_parent a_first a_second a_orientation a_share kd vl) (hc : c ≤ 13) (K : ∀ n, 8 ≤ n → n < 15 → (∀ i, i < c → nd i ≠ n) → post (nI n)) : wpX_freeSplitNode post (f_hostWidth, f_hostHeight, f_root, f_focusedPane, f_liveCount, a_parent, a_first, a_second, a_orientation, a_share, a_leastWidth, a_leastHeight, a_rectX, a_rectY, a_rectW, a_rectH, a_order, a_live, a_screenWidth, a_screenHeight, a_cursorRow, a_cursorCol, a_regionTop, a_regionBottom, a_parserMode, a_paramOne, a_paramTwo, a_paramIndex, a_cells) := by
  have main : ∀ dd i, i + dd = 14 → 8 ≤ i → (∀ j, 8 ≤ j → j < i → a_orientation j ≠ 0) → wX_freeSplitNode_3 post f_hostWidth f_hostHeight f_root f_focusedPane f_liveCount a_parent a_first a_second a_orientation a_share a_leastWidth a_leastHeight a_rectX a_rectY a_rectW a_rectH a_order a_live a_screenWidth a_screenHeight a_cursorRow a_cursorCol a_regionTop a_regionBottom a_parserMode a_paramOne a_paramTwo a_paramIndex a_cells (dd + 1) (nI i) := by
    intro dd
    induction dd with
    | zero =>
      intro i hi i8 h
      have e : i = 14 := by omega
      subst e
      exact br_t (nI_le (a := 14) (Nat.le_refl _) (by omega)) (K 14 (by omega) (by omega) (lv_last T hc h))
    | succ dd ih =>
      intro i hi i8 h
      have h15 : i < 15 := by omega
      refine br_f (nI_ge (b := 14) (by omega) (by omega)) ⟨vi_15 h15, ?_⟩
      rw [cg_15 h15]
      by_cases z : a_orientation i = 0
      · exact br_t z (K i i8 h15 (lv_node T i8 z))
      · refine br_f z (nm_r (nI_1 i) (ih (i + 1) (by omega) (by omega) (fun j j8 hj => ?_)))
        by_cases y : j = i
        · rw [y]; exact z
        · exact h j j8 (by omega)
  exact ⟨7, main 6 8 (by omega) (by omega) (fun j h1 h2 => by omega)⟩
theorem xw_put {post : St2 → Prop} {q m : Nat} (T : tr_T c nd en po f_root a_parent a_first a_second a_orientation a_share kd vl) (hq : q < c) (hm : m < 15) (K : ∀ root' fi' se', pu_S c nd en kd a_first a_second fi' se' f_root root' (nI m) q → post (f_hostWidth, f_hostHeight, root', f_focusedPane, f_liveCount, upd a_parent m (a_parent (nd q)), fi', se', a_orientation, a_share, a_leastWidth, a_leastHeight, a_rectX, a_rectY, a_rectW, a_rectH, a_order, a_live, a_screenWidth, a_screenHeight, a_cursorRow, a_cursorCol, a_regionTop, a_regionBottom, a_parserMode, a_paramOne, a_paramTwo, a_paramIndex, a_cells)) : wpX_putInPlace post (f_hostWidth, f_hostHeight, f_root, f_focusedPane, f_liveCount, a_parent, a_first, a_second, a_orientation, a_share, a_leastWidth, a_leastHeight, a_rectX, a_rectY, a_rectW, a_rectH, a_order, a_live, a_screenWidth, a_screenHeight, a_cursorRow, a_cursorCol, a_regionTop, a_regionBottom, a_parserMode, a_paramOne, a_paramTwo, a_paramIndex, a_cells) (nI (nd q)) (nI m) := by
  have q15 := (T.2.2.2.2.2.1 q hq).1
  have e := cg_15 q15
  refine ⟨vi_15 q15, nm_r (e' := a_parent (nd q)) (by rw [e]) ⟨vi_15 hm, nm_r (e' := upd a_parent m (a_parent (nd q))) (by rw [cg_15 hm]) ?_⟩⟩
  rcases pu_w T hq with ⟨q0, ep⟩ | ⟨u, hu, hk, uq, ep, u15, h⟩
  · have k := K (nI m) a_first a_second (by rw [q0]; exact pu_0 T)
    exact br_t ep k
  · have nm := tr_m1 (n := nd u) (by omega)
    refine br_f (by rw [ep]; exact nm) ?_
    rw [ep] at K ⊢
    refine ⟨vi_15 u15, ?_⟩
    rw [cg_15 u15]
    rcases h with ⟨hq1, hf⟩ | ⟨hq1, hf, hne, h15, _⟩
    · exact br_t hf ⟨vi_15 u15, nm_e (K f_root (upd a_first (nd u) (nI m)) a_second (by rw [hq1]; exact pu_1 T hu hk))⟩
    · refine br_f (fun z => hne ?_) ⟨vi_15 u15, nm_e (K f_root a_first (upd a_second (nd u) (nI m)) (by rw [hq1]; exact pu_2 T hu hk))⟩
      rw [hf] at z
      exact (nI_eq (by omega) (by omega)).mp z
end SP
