def ge_G (c : Nat) (kd : Nat → Int32) (en : Nat → Nat) (X Y W H : Nat → Nat) : Prop := ∀ i, i < c → kd i ≠ 0 →
  (kd i = 1 ∧ 1 ≤ W (i + 1) ∧ 1 ≤ W (en (i + 1)) ∧ X (i + 1) = X i ∧ Y (i + 1) = Y i ∧ H (i + 1) = H i ∧ X (en (i + 1)) = X i + W (i + 1) + 1 ∧ Y (en (i + 1)) = Y i ∧ W (en (i + 1)) + W (i + 1) + 1 = W i ∧ H (en (i + 1)) = H i) ∨
  (kd i = 2 ∧ 1 ≤ H (i + 1) ∧ 1 ≤ H (en (i + 1)) ∧ X (i + 1) = X i ∧ Y (i + 1) = Y i ∧ W (i + 1) = W i ∧ Y (en (i + 1)) = Y i + H (i + 1) + 1 ∧ X (en (i + 1)) = X i ∧ H (en (i + 1)) + H (i + 1) + 1 = H i ∧ W (en (i + 1)) = W i)
def ge_in (X Y W H : Nat → Nat) (r q i : Nat) : Prop := X i ≤ q ∧ q < X i + W i ∧ Y i ≤ r ∧ r < Y i + H i
def ge_bd (kd : Nat → Int32) (X Y W H : Nat → Nat) (r q i : Nat) : Prop :=
  (kd i = 1 ∧ q = X i + W (i + 1) ∧ Y i ≤ r ∧ r < Y i + H i) ∨ (kd i = 2 ∧ r = Y i + H (i + 1) ∧ X i ≤ q ∧ q < X i + W i)
theorem ge_10 {x : Int32} (h : x = 1) : x ≠ 0 := by rw [h]; decide
theorem ge_20 {x : Int32} (h : x = 2) : x ≠ 0 := by rw [h]; decide
theorem ge_12 {x : Int32} (h : x = 1) (h' : x = 2) : False := by rw [h] at h'; exact absurd h' (by decide)
theorem ge_bd_n {kd : Nat → Int32} {X Y W H : Nat → Nat} {r q i : Nat} (h : ge_bd kd X Y W H r q i) : kd i ≠ 0 := by
  rcases h with h | h
  · exact ge_10 h.1
  · exact ge_20 h.1
theorem ge_bd_in {c : Nat} {kd : Nat → Int32} {en X Y W H : Nat → Nat} (G : ge_G c kd en X Y W H) {r q i : Nat} (hi : i < c) (h : ge_bd kd X Y W H r q i) : ge_in X Y W H r q i := by
  unfold ge_in
  rcases G i hi (ge_bd_n h) with g | g <;> rcases h with h | h
  · omega
  · exact (ge_12 g.1 h.1).elim
  · exact (ge_12 h.1 g.1).elim
  · omega
theorem ge_ch {c : Nat} {kd : Nat → Int32} {en X Y W H : Nat → Nat} (G : ge_G c kd en X Y W H) {r q i : Nat} (hi : i < c) (hk : kd i ≠ 0) :
    (ge_in X Y W H r q (i + 1) → ge_in X Y W H r q i ∧ ¬ ge_in X Y W H r q (en (i + 1)) ∧ ¬ ge_bd kd X Y W H r q i) ∧
    (ge_in X Y W H r q (en (i + 1)) → ge_in X Y W H r q i ∧ ¬ ge_bd kd X Y W H r q i) ∧
    (ge_in X Y W H r q i → ge_in X Y W H r q (i + 1) ∨ ge_in X Y W H r q (en (i + 1)) ∨ ge_bd kd X Y W H r q i) := by
  unfold ge_in ge_bd
  rcases G i hi hk with ⟨k1, g⟩ | ⟨k2, g⟩
  · have n2 : ¬ kd i = 2 := fun z => ge_12 k1 z
    refine ⟨fun h => ⟨by omega, by omega, ?_⟩, fun h => ⟨by omega, ?_⟩, fun h => ?_⟩
    · rintro (z | z)
      · omega
      · exact n2 z.1
    · rintro (z | z)
      · omega
      · exact n2 z.1
    · by_cases z1 : q < X i + W (i + 1)
      · exact Or.inl (by omega)
      · by_cases z2 : q = X i + W (i + 1)
        · exact Or.inr (Or.inr (Or.inl ⟨k1, by omega⟩))
        · exact Or.inr (Or.inl (by omega))
  · have n1 : ¬ kd i = 1 := fun z => ge_12 z k2
    refine ⟨fun h => ⟨by omega, by omega, ?_⟩, fun h => ⟨by omega, ?_⟩, fun h => ?_⟩
    · rintro (z | z)
      · exact n1 z.1
      · omega
    · rintro (z | z)
      · exact n1 z.1
      · omega
    · by_cases z1 : r < Y i + H (i + 1)
      · exact Or.inl (by omega)
      · by_cases z2 : r = Y i + H (i + 1)
        · exact Or.inr (Or.inr (Or.inr ⟨k2, by omega⟩))
        · exact Or.inr (Or.inl (by omega))
theorem ge_in_up {c : Nat} {kd : Nat → Int32} {en X Y W H : Nat → Nat} (P : ps_P c kd en) (G : ge_G c kd en X Y W H) {r q : Nat} : ∀ i, i < c → ∀ j, i ≤ j → j < en i → ge_in X Y W H r q j → ge_in X Y W H r q i := by
  apply ps_up P (Q := fun i => ∀ j, i ≤ j → j < en i → ge_in X Y W H r q j → ge_in X Y W H r q i)
  · intro i hi hk j h1 h2 h
    have e := ps_lf P hi hk
    have : j = i := by omega
    subst this
    exact h
  · intro i hi hk q1 q2 j h1 h2 h
    obtain ⟨a1, a2, a3, a4, a5, a6⟩ := ps_nd P hi hk
    have g := ge_ch G (r := r) (q := q) hi hk
    by_cases z0 : j = i
    · subst z0; exact h
    · by_cases z1 : j < en (i + 1)
      · exact (g.1 (q1 j (by omega) z1 h)).1
      · exact (g.2.1 (q2 j (by omega) (by omega) h)).1
theorem ge_cov {c : Nat} {kd : Nat → Int32} {en X Y W H : Nat → Nat} (P : ps_P c kd en) (G : ge_G c kd en X Y W H) {r q : Nat} : ∀ i, i < c → ge_in X Y W H r q i → ∃ j, i ≤ j ∧ j < en i ∧ ((kd j = 0 ∧ ge_in X Y W H r q j) ∨ ge_bd kd X Y W H r q j) := by
  apply ps_up P (Q := fun i => ge_in X Y W H r q i → ∃ j, i ≤ j ∧ j < en i ∧ ((kd j = 0 ∧ ge_in X Y W H r q j) ∨ ge_bd kd X Y W H r q j))
  · intro i hi hk h
    exact ⟨i, Nat.le_refl _, (P.2.2 i hi).1, Or.inl ⟨hk, h⟩⟩
  · intro i hi hk q1 q2 h
    obtain ⟨a1, a2, a3, a4, a5, a6⟩ := ps_nd P hi hk
    rcases (ge_ch G (r := r) (q := q) hi hk).2.2 h with z | z | z
    · obtain ⟨j, b1, b2, b3⟩ := q1 z
      exact ⟨j, by omega, by omega, b3⟩
    · obtain ⟨j, b1, b2, b3⟩ := q2 z
      exact ⟨j, by omega, by omega, b3⟩
    · exact ⟨i, Nat.le_refl _, (P.2.2 i hi).1, Or.inr z⟩
theorem ge_one {c : Nat} {kd : Nat → Int32} {en X Y W H : Nat → Nat} (P : ps_P c kd en) (G : ge_G c kd en X Y W H) {r q : Nat} : ∀ i, i < c → ∀ j k, i ≤ j → j < en i → i ≤ k → k < en i → ge_bd kd X Y W H r q j → ge_bd kd X Y W H r q k → j = k := by
  apply ps_up P (Q := fun i => ∀ j k, i ≤ j → j < en i → i ≤ k → k < en i → ge_bd kd X Y W H r q j → ge_bd kd X Y W H r q k → j = k)
  · intro i hi hk j k h1 h2 h3 h4 _ _
    have e := ps_lf P hi hk
    omega
  · intro i hi hk q1 q2 j k h1 h2 h3 h4 hj hk'
    obtain ⟨a1, a2, a3, a4, a5, a6⟩ := ps_nd P hi hk
    have g := ge_ch G (r := r) (q := q) hi hk
    have ij := ge_bd_in G (by omega) hj
    have ik := ge_bd_in G (by omega) hk'
    have up1 := fun z h h' => ge_in_up P G (r := r) (q := q) (i + 1) a5 z h h'
    have up2 := fun z h h' => ge_in_up P G (r := r) (q := q) (en (i + 1)) a6 z h h'
    by_cases j0 : j = i
    · by_cases k0 : k = i
      · omega
      · subst j0
        by_cases k1 : k < en (j + 1)
        · exact absurd hj (g.1 (up1 k (by omega) k1 ik)).2.2
        · exact absurd hj (g.2.1 (up2 k (by omega) (by omega) ik)).2
    · by_cases k0 : k = i
      · subst k0
        by_cases j1 : j < en (k + 1)
        · exact absurd hk' (g.1 (up1 j (by omega) j1 ij)).2.2
        · exact absurd hk' (g.2.1 (up2 j (by omega) (by omega) ij)).2
      · by_cases j1 : j < en (i + 1) <;> by_cases k1 : k < en (i + 1)
        · exact q1 j k (by omega) j1 (by omega) k1 hj hk'
        · exact absurd (up2 k (by omega) (by omega) ik) (g.1 (up1 j (by omega) j1 ij)).2.1
        · exact absurd (up2 j (by omega) (by omega) ij) (g.1 (up1 k (by omega) k1 ik)).2.1
        · exact q2 j k (by omega) (by omega) (by omega) (by omega) hj hk'
/-- the greater, the less: as both programs reckon them -/
def la_mx (a b : Int32) : Int32 := if a ≤ b then b else a
def la_mn (a b : Int32) : Int32 := if b ≤ a then b else a
def la_v (w s a b : Int32) : Int32 := la_mn (la_mx ((w - 1) * s / 100) a) (w - 1 - b)
theorem la_mxN {a b : Nat} (ha : a < 2 ^ 31) (hb : b < 2 ^ 31) : la_mx (nI a) (nI b) = nI (if a ≤ b then b else a) := by
  unfold la_mx
  by_cases h : a ≤ b
  · rw [if_pos h, if_pos ((nI_leI ha hb).mpr h)]
  · rw [if_neg h, if_neg (fun z => h ((nI_leI ha hb).mp z))]
theorem la_mnN {a b : Nat} (ha : a < 2 ^ 31) (hb : b < 2 ^ 31) : la_mn (nI a) (nI b) = nI (if b ≤ a then b else a) := by
  unfold la_mn
  by_cases h : b ≤ a
  · rw [if_pos h, if_pos ((nI_leI hb ha).mpr h)]
  · rw [if_neg h, if_neg (fun z => h ((nI_leI hb ha).mp z))]
theorem la_sub1 {a : Nat} (h : 1 ≤ a) : nI a - 1 = nI (a - 1) := pk_sub (a := a) (b := 1) h
theorem la_vN {w s a b : Nat} (hw : w ≤ 24) (hs : s ≤ 99) (hab : a + 1 + b ≤ w) : ∃ v, la_v (nI w) (nI s) (nI a) (nI b) = nI v ∧ a ≤ v ∧ v + 1 + b ≤ w := by
  have e : (w - 1) * s ≤ 23 * 99 := Nat.mul_le_mul (by omega) hs
  have e2 : (w - 1) * s / 100 ≤ (w - 1) * s := Nat.div_le_self _ _
  unfold la_v
  rw [la_sub1 (by omega), pk_mul, show (100 : Int32) = nI 100 from rfl, pk_div (by omega) (by omega) (by omega), pk_sub (by omega), la_mxN (by omega) (by omega)]
  generalize (w - 1) * s / 100 = t at *
  by_cases h : t ≤ a
  · rw [if_pos h, la_mnN (by omega) (by omega)]
    by_cases h2 : w - 1 - b ≤ a
    · rw [if_pos h2]; exact ⟨_, rfl, by omega, by omega⟩
    · rw [if_neg h2]; exact ⟨_, rfl, by omega, by omega⟩
  · rw [if_neg h, la_mnN (by omega) (by omega)]
    by_cases h2 : w - 1 - b ≤ t
    · rw [if_pos h2]; exact ⟨_, rfl, by omega, by omega⟩
    · rw [if_neg h2]; exact ⟨_, rfl, by omega, by omega⟩
/-- the least sizes at the nodes of the tree -/
def la_l (kd : Nat → Int32) (nd en : Nat → Nat) (lw lh : Nat → Int32) (i : Nat) : Prop :=
  (kd i = 0 → lw (nd i) = 1 ∧ lh (nd i) = 1) ∧
  (kd i = 1 → lw (nd i) = lw (nd (i + 1)) + 1 + lw (nd (en (i + 1))) ∧ lh (nd i) = la_mx (lh (nd (i + 1))) (lh (nd (en (i + 1))))) ∧
  (kd i = 2 → lw (nd i) = la_mx (lw (nd (i + 1))) (lw (nd (en (i + 1)))) ∧ lh (nd i) = lh (nd (i + 1)) + 1 + lh (nd (en (i + 1))))
def la_L (c : Nat) (kd : Nat → Int32) (nd en : Nat → Nat) (lw lh : Nat → Int32) : Prop := ∀ i, i < c → la_l kd nd en lw lh i
/-- the rectangles of the children of the node at place i -/
def la_e (kd sh : Nat → Int32) (nd en : Nat → Nat) (lw lh rx ry rw rh : Nat → Int32) (i : Nat) : Prop :=
  (kd i = 1 → rx (nd (i + 1)) = rx (nd i) ∧ ry (nd (i + 1)) = ry (nd i) ∧ rw (nd (i + 1)) = la_v (rw (nd i)) (sh i) (lw (nd (i + 1))) (lw (nd (en (i + 1)))) ∧ rh (nd (i + 1)) = rh (nd i) ∧
    rx (nd (en (i + 1))) = rx (nd i) + la_v (rw (nd i)) (sh i) (lw (nd (i + 1))) (lw (nd (en (i + 1)))) + 1 ∧ ry (nd (en (i + 1))) = ry (nd i) ∧ rw (nd (en (i + 1))) = rw (nd i) - la_v (rw (nd i)) (sh i) (lw (nd (i + 1))) (lw (nd (en (i + 1)))) - 1 ∧ rh (nd (en (i + 1))) = rh (nd i)) ∧
  (kd i = 2 → rx (nd (i + 1)) = rx (nd i) ∧ ry (nd (i + 1)) = ry (nd i) ∧ rw (nd (i + 1)) = rw (nd i) ∧ rh (nd (i + 1)) = la_v (rh (nd i)) (sh i) (lh (nd (i + 1))) (lh (nd (en (i + 1)))) ∧
    rx (nd (en (i + 1))) = rx (nd i) ∧ ry (nd (en (i + 1))) = ry (nd i) + la_v (rh (nd i)) (sh i) (lh (nd (i + 1))) (lh (nd (en (i + 1)))) + 1 ∧ rw (nd (en (i + 1))) = rw (nd i) ∧ rh (nd (en (i + 1))) = rh (nd i) - la_v (rh (nd i)) (sh i) (lh (nd (i + 1))) (lh (nd (en (i + 1)))) - 1)
def la_E (c : Nat) (kd sh : Nat → Int32) (nd en : Nat → Nat) (lw lh rx ry rw rh : Nat → Int32) (W0 H0 : Int32) : Prop :=
  rx (nd 0) = 0 ∧ ry (nd 0) = 0 ∧ rw (nd 0) = W0 ∧ rh (nd 0) = H0 ∧ ∀ i, i < c → la_e kd sh nd en lw lh rx ry rw rh i
/-- kinds are 0, 1, 2, and a split's share is 1 to 99 -/
def la_K (c : Nat) (kd sh : Nat → Int32) : Prop := ∀ i, i < c → kd i = 0 ∨ ((kd i = 1 ∨ kd i = 2) ∧ ∃ s, 1 ≤ s ∧ s ≤ 99 ∧ sh i = nI s)
theorem la_Ln {c : Nat} {kd sh : Nat → Int32} {nd en : Nat → Nat} {lw lh : Nat → Int32} (P : ps_P c kd en) (K : la_K c kd sh) (hc : c ≤ 15) (L : la_L c kd nd en lw lh) : ∀ i, i < c → ∃ a b, lw (nd i) = nI a ∧ lh (nd i) = nI b ∧ 1 ≤ a ∧ 1 ≤ b ∧ a + i ≤ en i ∧ b + i ≤ en i := by
  apply ps_up P (Q := fun i => ∃ a b, lw (nd i) = nI a ∧ lh (nd i) = nI b ∧ 1 ≤ a ∧ 1 ≤ b ∧ a + i ≤ en i ∧ b + i ≤ en i)
  · intro i hi hk
    have e := ps_lf P hi hk
    exact ⟨1, 1, ((L i hi).1 hk).1, ((L i hi).1 hk).2, by omega, by omega, by omega, by omega⟩
  · intro i hi hk q1 q2
    obtain ⟨a1, a2, a3, a4, a5, a6⟩ := ps_nd P hi hk
    obtain ⟨m1, n1, e1, f1, b1, b2, b3, b4⟩ := q1
    obtain ⟨m2, n2, e2, f2, d1, d2, d3, d4⟩ := q2
    obtain ⟨_, l1, l2⟩ := L i hi
    rw [e1, e2, f1, f2] at l1 l2
    rcases K i hi with z | ⟨z | z, _⟩
    · exact absurd z hk
    · obtain ⟨w, h⟩ := l1 z
      rw [nI_1, nI_add] at w
      rw [la_mxN (by omega) (by omega)] at h
      refine ⟨_, _, w, h, by omega, ?_, by omega, ?_⟩ <;> split <;> omega
    · obtain ⟨w, h⟩ := l2 z
      rw [nI_1, nI_add] at h
      rw [la_mxN (by omega) (by omega)] at w
      refine ⟨_, _, w, h, ?_, by omega, ?_, by omega⟩ <;> split <;> omega
theorem la_un {c : Nat} {kd sh : Nat → Int32} {nd en : Nat → Nat} {lw lh lw' lh' : Nat → Int32} (P : ps_P c kd en) (K : la_K c kd sh) (L : la_L c kd nd en lw lh) (L' : la_L c kd nd en lw' lh') : ∀ i, i < c → lw' (nd i) = lw (nd i) ∧ lh' (nd i) = lh (nd i) := by
  apply ps_up P (Q := fun i => lw' (nd i) = lw (nd i) ∧ lh' (nd i) = lh (nd i))
  · intro i hi hk
    exact ⟨((L' i hi).1 hk).1.trans ((L i hi).1 hk).1.symm, ((L' i hi).1 hk).2.trans ((L i hi).1 hk).2.symm⟩
  · intro i hi hk q1 q2
    obtain ⟨_, l1, l2⟩ := L i hi
    obtain ⟨_, m1, m2⟩ := L' i hi
    rw [q1.1, q1.2, q2.1, q2.2] at m1 m2
    rcases K i hi with z | ⟨z | z, _⟩
    · exact absurd z hk
    · exact ⟨(m1 z).1.trans (l1 z).1.symm, (m1 z).2.trans (l1 z).2.symm⟩
    · exact ⟨(m2 z).1.trans (l2 z).1.symm, (m2 z).2.trans (l2 z).2.symm⟩
/-- all in naturals: the picture of a layout -/
def la_N (c : Nat) (nd : Nat → Nat) (lw lh rx ry rw rh : Nat → Int32) (w0 h0 : Nat) (X Y W H mw mh : Nat → Nat) : Prop :=
  ∀ i, i < c → lw (nd i) = nI (mw i) ∧ lh (nd i) = nI (mh i) ∧ rx (nd i) = nI (X i) ∧ ry (nd i) = nI (Y i) ∧ rw (nd i) = nI (W i) ∧ rh (nd i) = nI (H i) ∧ 1 ≤ mw i ∧ 1 ≤ mh i ∧ mw i ≤ W i ∧ mh i ≤ H i ∧ X i + W i ≤ w0 ∧ Y i + H i ≤ h0
theorem la_nat {c : Nat} {kd sh : Nat → Int32} {nd en : Nat → Nat} {lw lh rx ry rw rh : Nat → Int32} {w0 h0 : Nat} (P : ps_P c kd en) (K : la_K c kd sh) (hc : c ≤ 15) (L : la_L c kd nd en lw lh)
    (E : la_E c kd sh nd en lw lh rx ry rw rh (nI w0) (nI h0)) (hw : w0 ≤ 24) (hh : h0 ≤ 12) (m0 : ∀ a, lw (nd 0) = nI a → a ≤ 24 → a ≤ w0) (n0 : ∀ a, lh (nd 0) = nI a → a ≤ 24 → a ≤ h0) :
    ∃ X Y W H mw mh, la_N c nd lw lh rx ry rw rh w0 h0 X Y W H mw mh ∧ ge_G c kd en X Y W H := by
  have Ln := la_Ln P K hc L
  obtain ⟨E1, E2, E3, E4, E5⟩ := E
  have D := ps_down P (Q := fun i => ∃ x y w h a b, lw (nd i) = nI a ∧ lh (nd i) = nI b ∧ rx (nd i) = nI x ∧ ry (nd i) = nI y ∧ rw (nd i) = nI w ∧ rh (nd i) = nI h ∧ 1 ≤ a ∧ 1 ≤ b ∧ a ≤ w ∧ b ≤ h ∧ x + w ≤ w0 ∧ y + h ≤ h0)
    (by
      obtain ⟨a, b, e, f, g1, g2, g3, g4⟩ := Ln 0 P.1
      have e0 := P.2.1
      exact ⟨0, 0, w0, h0, a, b, e, f, E1, E2, E3, E4, g1, g2, m0 a e (by omega), n0 b f (by omega), by omega, by omega⟩)
    (by
      intro i hi hk ⟨x, y, w, h, a, b, l1, l2, r1, r2, r3, r4, b1, b2, b3, b4, b5, b6⟩
      obtain ⟨a1, a2, a3, a4, a5, a6⟩ := ps_nd P hi hk
      obtain ⟨m1, n1, e1, f1, c1, c2, c3, c4⟩ := Ln (i + 1) a5
      obtain ⟨m2, n2, e2, f2, d1, d2, d3, d4⟩ := Ln (en (i + 1)) a6
      obtain ⟨_, k1, k2⟩ := L i hi
      obtain ⟨j1, j2⟩ := E5 i hi
      rw [e1, e2, f1, f2, l1, l2] at k1 k2
      rw [e1, e2, r1, r2, r3, r4] at j1
      rw [f1, f2, r1, r2, r3, r4] at j2
      rcases K i hi with z | ⟨z | z, s, _, hs, es⟩
      · exact absurd z hk
      · obtain ⟨w1, h1⟩ := k1 z
        rw [nI_1, nI_add, nI_eq (by omega) (by omega)] at w1
        rw [la_mxN (by omega) (by omega), nI_eq (by omega) (by split <;> omega)] at h1
        obtain ⟨v, ev, v1, v2⟩ := la_vN (w := w) (s := s) (a := m1) (b := m2) (by omega) hs (by omega)
        have j := j1 z
        rw [es, ev, pk_sub (by omega), la_sub1 (by omega), nI_add, nI_1] at j
        obtain ⟨t1, t2, t3, t4, t5, t6, t7, t8⟩ := j
        refine ⟨⟨x, y, v, h, m1, n1, e1, f1, t1, t2, t3, t4, c1, c2, v1, ?_, by omega, by omega⟩, ⟨x + v + 1, y, w - v - 1, h, m2, n2, e2, f2, t5, t6, t7, t8, d1, d2, by omega, ?_, by omega, by omega⟩⟩
        · split at h1 <;> omega
        · split at h1 <;> omega
      · obtain ⟨w1, h1⟩ := k2 z
        rw [nI_1, nI_add, nI_eq (by omega) (by omega)] at h1
        rw [la_mxN (by omega) (by omega), nI_eq (by omega) (by split <;> omega)] at w1
        obtain ⟨v, ev, v1, v2⟩ := la_vN (w := h) (s := s) (a := n1) (b := n2) (by omega) hs (by omega)
        have j := j2 z
        rw [es, ev, pk_sub (by omega), la_sub1 (by omega), nI_add, nI_1] at j
        obtain ⟨t1, t2, t3, t4, t5, t6, t7, t8⟩ := j
        refine ⟨⟨x, y, w, v, m1, n1, e1, f1, t1, t2, t3, t4, c1, c2, ?_, v1, by omega, by omega⟩, ⟨x, y + v + 1, w, h - v - 1, m2, n2, e2, f2, t5, t6, t7, t8, d1, d2, ?_, by omega, by omega, by omega⟩⟩
        · split at w1 <;> omega
        · split at w1 <;> omega)
  have N : la_N c nd lw lh rx ry rw rh w0 h0 (fun i => (rx (nd i)).toNatClampNeg) (fun i => (ry (nd i)).toNatClampNeg) (fun i => (rw (nd i)).toNatClampNeg) (fun i => (rh (nd i)).toNatClampNeg) (fun i => (lw (nd i)).toNatClampNeg) (fun i => (lh (nd i)).toNatClampNeg) := by
    intro i hi
    obtain ⟨x, y, w, h, a, b, l1, l2, r1, r2, r3, r4, b1, b2, b3, b4, b5, b6⟩ := D i hi
    dsimp only
    rw [l1, l2, r1, r2, r3, r4, nI_clamp (by omega), nI_clamp (by omega), nI_clamp (by omega), nI_clamp (by omega), nI_clamp (by omega), nI_clamp (by omega)]
    exact ⟨rfl, rfl, rfl, rfl, rfl, rfl, b1, b2, b3, b4, b5, b6⟩
  refine ⟨_, _, _, _, _, _, N, ?_⟩
  intro i hi hk
  obtain ⟨a1, a2, a3, a4, a5, a6⟩ := ps_nd P hi hk
  obtain ⟨x, y, w, h, a, b, l1, l2, r1, r2, r3, r4, b1, b2, b3, b4, b5, b6⟩ := D i hi
  obtain ⟨x', y', w', h', a', b', l1', l2', r1', r2', r3', r4', b1', b2', b3', b4', b5', b6'⟩ := D (i + 1) a5
  obtain ⟨x2, y2, w2, h2, a2', b2'', l12, l22, r12, r22, r32, r42, b12, b22, b32, b42, b52, b62⟩ := D (en (i + 1)) a6
  dsimp only
  obtain ⟨_, k1, k2⟩ := L i hi
  obtain ⟨j1, j2⟩ := E5 i hi
  rw [l1', l12, l1, l2', l22, l2] at k1 k2
  rw [l1', l12, r1, r2, r3, r4, r1', r2', r3', r4', r12, r22, r32, r42] at j1
  rw [l2', l22, r1, r2, r3, r4, r1', r2', r3', r4', r12, r22, r32, r42] at j2
  rw [r1, r2, r3, r4, r1', r2', r3', r4', r12, r22, r32, r42, nI_clamp (by omega), nI_clamp (by omega), nI_clamp (by omega), nI_clamp (by omega), nI_clamp (by omega), nI_clamp (by omega), nI_clamp (by omega), nI_clamp (by omega), nI_clamp (by omega), nI_clamp (by omega), nI_clamp (by omega), nI_clamp (by omega)]
  rcases K i hi with z | ⟨z | z, s, _, hs, es⟩
  · exact absurd z hk
  · left
    obtain ⟨w1, h1⟩ := k1 z
    rw [nI_1, nI_add, nI_eq (by omega) (by omega)] at w1
    obtain ⟨v, ev, v1, v2⟩ := la_vN (w := w) (s := s) (a := a') (b := a2') (by omega) hs (by omega)
    have j := j1 z
    rw [es, ev, pk_sub (by omega), la_sub1 (by omega), nI_add, nI_1, nI_eq (by omega) (by omega), nI_eq (by omega) (by omega), nI_eq (by omega) (by omega), nI_eq (by omega) (by omega), nI_eq (by omega) (by omega), nI_eq (by omega) (by omega), nI_eq (by omega) (by omega), nI_eq (by omega) (by omega)] at j
    exact ⟨z, by omega⟩
  · right
    obtain ⟨w1, h1⟩ := k2 z
    rw [nI_1, nI_add, nI_eq (by omega) (by omega)] at h1
    obtain ⟨v, ev, v1, v2⟩ := la_vN (w := h) (s := s) (a := b') (b := b2'') (by omega) hs (by omega)
    have j := j2 z
    rw [es, ev, pk_sub (by omega), la_sub1 (by omega), nI_add, nI_1, nI_eq (by omega) (by omega), nI_eq (by omega) (by omega), nI_eq (by omega) (by omega), nI_eq (by omega) (by omega), nI_eq (by omega) (by omega), nI_eq (by omega) (by omega), nI_eq (by omega) (by omega), nI_eq (by omega) (by omega)] at j
    exact ⟨z, by omega⟩
