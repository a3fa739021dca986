theorem la_Nm {c : Nat} {kd sh : Nat → Int32} {nd en : Nat → Nat} {lw lh rx ry rw rh : Nat → Int32} {w0 h0 : Nat} {X Y W H mw mh : Nat → Nat} (P : ps_P c kd en) (L : la_L c kd nd en lw lh) (hw : w0 ≤ 24) (hh : h0 ≤ 12) (N : la_N c nd lw lh rx ry rw rh w0 h0 X Y W H mw mh) {i : Nat} (hi : i < c) :
    (kd i = 1 → mw i = mw (i + 1) + 1 + mw (en (i + 1)) ∧ mh (i + 1) ≤ mh i ∧ mh (en (i + 1)) ≤ mh i ∧ (mh i = mh (i + 1) ∨ mh i = mh (en (i + 1)))) ∧
    (kd i = 2 → mh i = mh (i + 1) + 1 + mh (en (i + 1)) ∧ mw (i + 1) ≤ mw i ∧ mw (en (i + 1)) ≤ mw i ∧ (mw i = mw (i + 1) ∨ mw i = mw (en (i + 1)))) := by
  obtain ⟨_, l1, l2⟩ := L i hi
  obtain ⟨n1, n2, n3, n4, n5, n6, n7, n8, n9, n10, n11, n12⟩ := N i hi
  constructor
  · intro hk
    obtain ⟨a1, a2, a3, a4, a5, a6⟩ := ps_nd P hi (ge_10 hk)
    obtain ⟨p1, p2, p3, p4, p5, p6, p7, p8, p9, p10, p11, p12⟩ := N (i + 1) a5
    obtain ⟨q1, q2, q3, q4, q5, q6, q7, q8, q9, q10, q11, q12⟩ := N (en (i + 1)) a6
    obtain ⟨x, y⟩ := l1 hk
    rw [n1, p1, q1, nI_1, nI_add, nI_eq (by omega) (by omega)] at x
    rw [n2, p2, q2, la_mxN (by omega) (by omega), nI_eq (by omega) (by split <;> omega)] at y
    refine ⟨x, ?_⟩
    split at y <;> omega
  · intro hk
    obtain ⟨a1, a2, a3, a4, a5, a6⟩ := ps_nd P hi (ge_20 hk)
    obtain ⟨p1, p2, p3, p4, p5, p6, p7, p8, p9, p10, p11, p12⟩ := N (i + 1) a5
    obtain ⟨q1, q2, q3, q4, q5, q6, q7, q8, q9, q10, q11, q12⟩ := N (en (i + 1)) a6
    obtain ⟨x, y⟩ := l2 hk
    rw [n1, p1, q1, la_mxN (by omega) (by omega), nI_eq (by omega) (by split <;> omega)] at x
    rw [n2, p2, q2, nI_1, nI_add, nI_eq (by omega) (by omega)] at y
    refine ⟨y, ?_⟩
    split at x <;> omega
theorem sp_min {c p w0 h0 : Nat} {kd kd' sh : Nat → Int32} {nd nd' en : Nat → Nat} {o : Int32} {lw lh rx ry rw rh lw' lh' : Nat → Int32} {X Y W H mw mh : Nat → Nat} (P : ps_P c kd en) (K : la_K c kd sh) (hp : p < c) (hk : kd p = 0) (ho : o = 1 ∨ o = 2)
    (hw : w0 ≤ 24) (hh : h0 ≤ 12) (N : la_N c nd lw lh rx ry rw rh w0 h0 X Y W H mw mh) (G : ge_G c kd en X Y W H) (r1 : o = 1 → 3 ≤ W p) (r2 : o = 2 → 3 ≤ H p) (h' : ∀ j, j < c + 2 → kd' j = sp_f p o 0 0 kd j)
    (L : la_L (c + 2) kd' nd' (sp_f p (p + 3) (p + 2) (p + 3) (fun j => sp_s p (en j))) lw' lh') : ∃ a b, lw' (nd' 0) = nI a ∧ lh' (nd' 0) = nI b ∧ a ≤ w0 ∧ b ≤ h0 := by
  have EN := fun j => sp_en P hp hk (j := j)
  have U := ps_up P (Q := fun j => ∃ a b, lw' (nd' (sp_s p j)) = nI a ∧ lh' (nd' (sp_s p j)) = nI b ∧ 1 ≤ a ∧ 1 ≤ b ∧ a ≤ W j ∧ b ≤ H j)
    (by
      intro j hj hkj
      obtain ⟨n1, n2, n3, n4, n5, n6, n7, n8, n9, n10, n11, n12⟩ := N j hj
      have l := L (sp_s p j) (by unfold sp_s; split <;> omega)
      unfold la_l at l
      rw [h' (sp_s p j) (by unfold sp_s; split <;> omega)] at l
      by_cases z : j = p
      · subst z
        have m1 := (L (j + 1) (by omega)).1 (by rw [h' _ (by omega), sp_f1])
        have m2 := (L (j + 2) (by omega)).1 (by rw [h' _ (by omega), sp_f2])
        rw [sp_sl (Nat.le_refl _), sp_f0, sp_f1, m1.1, m1.2, m2.1, m2.2] at l
        rw [sp_sl (Nat.le_refl _)]
        rcases ho with e | e
        · obtain ⟨x, y⟩ := l.2.1 e
          have := r1 e
          exact ⟨3, 1, x.trans (by decide), y.trans (by decide), by omega, by omega, by omega, by omega⟩
        · obtain ⟨x, y⟩ := l.2.2 e
          have := r2 e
          exact ⟨1, 3, x.trans (by decide), y.trans (by decide), by omega, by omega, by omega, by omega⟩
      · rw [sp_fs z] at l
        obtain ⟨x, y⟩ := l.1 hkj
        exact ⟨1, 1, x, y, by omega, by omega, by omega, by omega⟩)
    (by
      intro j hj hkj q1 q2
      obtain ⟨a1, b1, e1, f1, g1, g2, g3, g4⟩ := q1
      obtain ⟨a2, b2, e2, f2, i1, i2, i3, i4⟩ := q2
      obtain ⟨s1, s2, s3, s4, s5, s6⟩ := ps_nd P hj hkj
      obtain ⟨n1, n2, n3, n4, n5, n6, n7, n8, n9, n10, n11, n12⟩ := N j hj
      have z : j ≠ p := fun e => hkj (by rw [e]; exact hk)
      have l := L (sp_s p j) (by unfold sp_s; split <;> omega)
      unfold la_l at l
      rw [h' (sp_s p j) (by unfold sp_s; split <;> omega), sp_fs z, ← sp_s1 z, EN, e1, e2, f1, f2] at l
      rcases G j hj hkj with ⟨k1, g⟩ | ⟨k1, g⟩
      · obtain ⟨x, y⟩ := l.2.1 k1
        rw [nI_1, nI_add] at x
        rw [la_mxN (by omega) (by omega)] at y
        refine ⟨_, _, x, y, by omega, ?_, by omega, ?_⟩ <;> split <;> omega
      · obtain ⟨x, y⟩ := l.2.2 k1
        rw [nI_1, nI_add] at y
        rw [la_mxN (by omega) (by omega)] at x
        refine ⟨_, _, x, y, ?_, by omega, ?_, by omega⟩ <;> split <;> omega)
  obtain ⟨a, b, e, f, _, _, g1, g2⟩ := U 0 P.1
  obtain ⟨n1, n2, n3, n4, n5, n6, n7, n8, n9, n10, n11, n12⟩ := N 0 P.1
  rw [sp_sl (Nat.zero_le _)] at e f
  exact ⟨a, b, e, f, by omega, by omega⟩
theorem cl_min {c u p s w0 h0 : Nat} {kd kd' sh : Nat → Int32} {nd nd' en : Nat → Nat} {lw lh rx ry rw rh lw' lh' : Nat → Int32} {X Y W H mw mh : Nat → Nat} (F : cl_F c kd en u p s) (K : la_K c kd sh)
    (hw : w0 ≤ 24) (hh : h0 ≤ 12) (L0 : la_L c kd nd en lw lh) (N : la_N c nd lw lh rx ry rw rh w0 h0 X Y W H mw mh) (h' : ∀ j, j < c - 2 → kd' j = kd (cl_r u p j))
    (L : la_L (c - 2) kd' nd' (fun j => cl_d u p (en (cl_r u p j))) lw' lh') : ∃ a b, lw' (nd' 0) = nI a ∧ lh' (nd' 0) = nI b ∧ a ≤ w0 ∧ b ≤ h0 := by
  have EN := fun t (h : t ≠ p) => cl_en F (t := t) h
  have RT := fun t (h : t ≠ p) => cl_rt F (t := t) h
  have LT := fun t (h : t < c) (h' : t ≠ p) => cl_lt F (t := t) h h'
  have PAR := fun q (h : q < c) h' h'' => cl_par F (q := q) h h' h''
  obtain ⟨P, f1, f2, f3, f4, f5, f6, f7, f8, f9, f10⟩ := id F
  have U := ps_up P (Q := fun q => q ≠ p → ∃ a b, lw' (nd' (cl_d u p q)) = nI a ∧ lh' (nd' (cl_d u p q)) = nI b ∧ 1 ≤ a ∧ 1 ≤ b ∧ a ≤ mw q ∧ b ≤ mh q)
    (by
      intro q hq hkq qp
      obtain ⟨n1, n2, n3, n4, n5, n6, n7, n8, n9, n10, n11, n12⟩ := N q hq
      have qu : q ≠ u := fun e => f2 (by rw [← e]; exact hkq)
      have l := (L _ (LT q hq qp)).1 (by rw [h' _ (LT q hq qp), RT q qp, if_neg qu]; exact hkq)
      exact ⟨1, 1, l.1, l.2, by omega, by omega, by omega, by omega⟩)
    (by
      intro q hq hkq q1 q2 qp
      obtain ⟨s1, s2, s3, s4, s5, s6⟩ := ps_nd P hq hkq
      obtain ⟨n1, n2, n3, n4, n5, n6, n7, n8, n9, n10, n11, n12⟩ := N q hq
      have M := la_Nm (sh := sh) P L0 hw hh N hq
      obtain ⟨y1, y2, y3, y4, y5, y6, y7, y8, y9, y10, y11, y12⟩ := N (q + 1) s5
      obtain ⟨z1, z2, z3, z4, z5, z6, z7, z8, z9, z10, z11, z12⟩ := N (en (q + 1)) s6
      have kk : kd q = 1 ∨ kd q = 2 := by
        rcases K q hq with h | h
        · exact absurd h hkq
        · exact h.1
      by_cases qu : q = u
      · subst qu
        have du : cl_d q p q = q := if_pos (Nat.le_refl _)
        rw [du]
        rcases f7 with ⟨g1, g2, g3, g4, g5⟩ | ⟨g1, g2, g3, g4⟩
        · have ds : cl_d q p (en (q + 1)) = q := by
            unfold cl_d
            rw [g5, if_neg (by omega), if_neg (by omega)]
            omega
          obtain ⟨a, b, e, f, i1, i2, i3, i4⟩ := q2 (by omega)
          rw [ds] at e f
          refine ⟨a, b, e, f, i1, i2, ?_, ?_⟩
          · rcases kk with k | k
            · have := M.1 k; omega
            · have := M.2 k; omega
          · rcases kk with k | k
            · have := M.1 k; omega
            · have := M.2 k; omega
        · have ds : cl_d q p (q + 1) = q := by
            unfold cl_d
            rw [if_neg (by omega), if_pos (by omega)]
            omega
          obtain ⟨a, b, e, f, i1, i2, i3, i4⟩ := q1 (by omega)
          rw [ds] at e f
          refine ⟨a, b, e, f, i1, i2, ?_, ?_⟩
          · rcases kk with k | k
            · have := M.1 k; omega
            · have := M.2 k; omega
          · rcases kk with k | k
            · have := M.1 k; omega
            · have := M.2 k; omega
      · obtain ⟨p1, p2⟩ := PAR q hq hkq qu
        obtain ⟨a1, b1, e1, g1, i1, i2, i3, i4⟩ := q1 p1
        obtain ⟨a2, b2, e2, g2, j1, j2, j3, j4⟩ := q2 p2
        have l := L _ (LT q hq qp)
        unfold la_l at l
        rw [h' _ (LT q hq qp), ← cl_s1 f6 qu qp] at l
        try dsimp only at l
        rw [EN _ p1, RT q qp, if_neg qu, e1, e2, g1, g2] at l
        rcases kk with k | k
        · have m := M.1 k
          obtain ⟨x, y⟩ := l.2.1 k
          rw [nI_1, nI_add] at x
          rw [la_mxN (by omega) (by omega)] at y
          refine ⟨_, _, x, y, by omega, ?_, by omega, ?_⟩ <;> split <;> omega
        · have m := M.2 k
          obtain ⟨x, y⟩ := l.2.2 k
          rw [nI_1, nI_add] at y
          rw [la_mxN (by omega) (by omega)] at x
          refine ⟨_, _, x, y, ?_, by omega, ?_, by omega⟩ <;> split <;> omega)
  obtain ⟨a, b, e, f, _, _, g1, g2⟩ := U 0 P.1 (by omega)
  obtain ⟨n1, n2, n3, n4, n5, n6, n7, n8, n9, n10, n11, n12⟩ := N 0 P.1
  have d0 : cl_d u p 0 = 0 := if_pos (Nat.zero_le _)
  rw [d0] at e f
  exact ⟨a, b, e, f, by omega, by omega⟩
