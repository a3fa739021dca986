theorem ps_st_node {c : Nat} {kd : Nat → Int32} {en : Nat → Nat} (P : ps_P c kd en) {Q : Nat → Nat → Prop} {e s j : Nat} (he : e ≤ c) (hj : j < c) (hk : kd j ≠ 0) (h : ps_st en Q e s (en j)) (q1 : Q (s + 1) (j + 1)) (q2 : Q s (en (j + 1))) : ps_st en Q e (s + 2) (j + 1) := by
  obtain ⟨a1, a2, a3, a4, a5, a6⟩ := ps_nd P hj hk
  have l := ps_st_len P he h
  refine ⟨by omega, q1, by omega, q2, ?_⟩
  rw [a4]
  exact h
/-- what the reference's layout has found, the last split whose border holds the cell -/
def la_F (kd : Nat → Int32) (nd : Nat → Nat) (rx ry rw rh : Nat → Int32) (tr tc : Int32) : Nat → Int32
  | 0 => 0
  | i + 1 => if kd i = 1 then (if tc = rx (nd i) + rw (nd (i + 1)) ∧ ry (nd i) ≤ tr ∧ tr < ry (nd i) + rh (nd i) then 124 else la_F kd nd rx ry rw rh tr tc i)
    else if kd i = 2 then (if tr = ry (nd i) + rh (nd (i + 1)) ∧ rx (nd i) ≤ tc ∧ tc < rx (nd i) + rw (nd i) then 45 else la_F kd nd rx ry rw rh tr tc i)
    else la_F kd nd rx ry rw rh tr tc i
theorem la_F1 {c : Nat} {kd : Nat → Int32} {nd : Nat → Nat} {lw lh rx ry rw rh : Nat → Int32} {w0 h0 r q : Nat} {X Y W H mw mh : Nat → Nat} {en : Nat → Nat} (P : ps_P c kd en) (hw : w0 ≤ 24) (hh : h0 ≤ 12) (hr : r < 2 ^ 31) (hq : q < 2 ^ 31) (N : la_N c nd lw lh rx ry rw rh w0 h0 X Y W H mw mh) {i : Nat} (hi : i < c) :
    la_F kd nd rx ry rw rh (nI r) (nI q) (i + 1) = (@ite Int32 (ge_bd kd X Y W H r q i) (Classical.propDecidable _) (if kd i = 1 then 124 else 45) (la_F kd nd rx ry rw rh (nI r) (nI q) i)) := by
  obtain ⟨n1, n2, n3, n4, n5, n6, n7, n8, n9, n10, n11, n12⟩ := N i hi
  show (if kd i = 1 then (if nI q = rx (nd i) + rw (nd (i + 1)) ∧ ry (nd i) ≤ nI r ∧ nI r < ry (nd i) + rh (nd i) then (124 : Int32) else la_F kd nd rx ry rw rh (nI r) (nI q) i)
    else if kd i = 2 then (if nI r = ry (nd i) + rh (nd (i + 1)) ∧ rx (nd i) ≤ nI q ∧ nI q < rx (nd i) + rw (nd i) then 45 else la_F kd nd rx ry rw rh (nI r) (nI q) i)
    else la_F kd nd rx ry rw rh (nI r) (nI q) i) = _
  by_cases k1 : kd i = 1
  · obtain ⟨a1, a2, a3, a4, a5, a6⟩ := ps_nd P hi (ge_10 k1)
    obtain ⟨p1, p2, p3, p4, p5, p6, p7, p8, p9, p10, p11, p12⟩ := N (i + 1) a5
    rw [if_pos k1, if_pos k1, n3, n4, n6, p5, nI_add, nI_add]
    have hz : (nI q = nI (X i + W (i + 1)) ∧ nI (Y i) ≤ nI r ∧ nI r < nI (Y i + H i)) ↔ (q = X i + W (i + 1) ∧ Y i ≤ r ∧ r < Y i + H i) := by
      rw [nI_eq (by omega) (by omega), nI_leI (by omega) (by omega), nI_ltI (by omega) (by omega)]
    by_cases z : q = X i + W (i + 1) ∧ Y i ≤ r ∧ r < Y i + H i
    · rw [if_pos (hz.mpr z), if_pos (show ge_bd kd X Y W H r q i from Or.inl ⟨k1, z⟩)]
    · rw [if_neg (fun y => z (hz.mp y)), if_neg]
      rintro (b | b)
      · exact z b.2
      · exact ge_12 k1 b.1
  · rw [if_neg k1, if_neg k1]
    by_cases k2 : kd i = 2
    · obtain ⟨a1, a2, a3, a4, a5, a6⟩ := ps_nd P hi (ge_20 k2)
      obtain ⟨p1, p2, p3, p4, p5, p6, p7, p8, p9, p10, p11, p12⟩ := N (i + 1) a5
      rw [if_pos k2, n3, n4, n5, p6, nI_add, nI_add]
      have hz : (nI r = nI (Y i + H (i + 1)) ∧ nI (X i) ≤ nI q ∧ nI q < nI (X i + W i)) ↔ (r = Y i + H (i + 1) ∧ X i ≤ q ∧ q < X i + W i) := by
        rw [nI_eq (by omega) (by omega), nI_leI (by omega) (by omega), nI_ltI (by omega) (by omega)]
      by_cases z : r = Y i + H (i + 1) ∧ X i ≤ q ∧ q < X i + W i
      · rw [if_pos (hz.mpr z), if_pos (show ge_bd kd X Y W H r q i from Or.inr ⟨k2, z⟩)]
      · rw [if_neg (fun y => z (hz.mp y)), if_neg]
        rintro (b | b)
        · exact k1 b.1
        · exact z b.2
    · rw [if_neg k2, if_neg]
      rintro (b | b)
      · exact k1 b.1
      · exact k2 b.1
theorem la_Fv {c : Nat} {kd : Nat → Int32} {nd en : Nat → Nat} {lw lh rx ry rw rh : Nat → Int32} {w0 h0 r q : Nat} {X Y W H mw mh : Nat → Nat} (P : ps_P c kd en) (hw : w0 ≤ 24) (hh : h0 ≤ 12) (hr : r < 2 ^ 31) (hq : q < 2 ^ 31) (N : la_N c nd lw lh rx ry rw rh w0 h0 X Y W H mw mh) (G : ge_G c kd en X Y W H)
    {j : Nat} (hj : j < c) (hb : ge_bd kd X Y W H r q j) : la_F kd nd rx ry rw rh (nI r) (nI q) c = if kd j = 1 then 124 else 45 := by
  have key : ∀ i, i ≤ c → j < i → la_F kd nd rx ry rw rh (nI r) (nI q) i = if kd j = 1 then 124 else 45 := by
    intro i
    induction i with
    | zero => intro _ h; omega
    | succ i ih =>
      intro hi h
      rw [la_F1 P hw hh hr hq N (by omega)]
      by_cases z : i = j
      · subst z; rw [if_pos hb]
      · rw [if_neg, ih (by omega) (by omega)]
        intro b
        exact z (ge_one P G 0 P.1 i j (Nat.zero_le _) (by rw [P.2.1]; omega) (Nat.zero_le _) (by rw [P.2.1]; omega) b hb)
  exact key c (Nat.le_refl _) hj
/-- the nearest split of orientation o above the leaf at p -/
def an_B (kd : Nat → Int32) (en : Nat → Nat) (o : Int32) (p b : Nat) : Prop := b < p ∧ kd b = o ∧ p < en b ∧ ∀ j, b < j → j < p → ¬ (kd j = o ∧ p < en j)
def an_0 (kd : Nat → Int32) (en : Nat → Nat) (o : Int32) (p : Nat) : Prop := ∀ j, j < p → ¬ (kd j = o ∧ p < en j)
/-- q is p or a place above it, and none from q to p is of orientation o -/
def an_I (kd : Nat → Int32) (en : Nat → Nat) (o : Int32) (p q : Nat) : Prop := q ≤ p ∧ p < en q ∧ ∀ j, q ≤ j → j < p → ¬ (kd j = o ∧ p < en j)
theorem an_up {c : Nat} {kd : Nat → Int32} {en : Nat → Nat} (P : ps_P c kd en) {o : Int32} {p q u : Nat} (I : an_I kd en o p q) (h : ps_ch kd en c u q) (hk : kd u ≠ o) : an_I kd en o p u := by
  obtain ⟨i1, i2, i3⟩ := I
  have l := ps_ch_lt P h
  refine ⟨by omega, by omega, ?_⟩
  intro j h1 h2
  by_cases z : j = u
  · subst z; exact fun y => hk y.1
  · by_cases y : j < q
    · have := ps_btw P h (by omega) y
      exact fun x => by omega
    · exact i3 j (by omega) h2
theorem an_hit {c : Nat} {kd : Nat → Int32} {en : Nat → Nat} (P : ps_P c kd en) {o : Int32} {p q u : Nat} (I : an_I kd en o p q) (h : ps_ch kd en c u q) (hk : kd u = o) : an_B kd en o p u := by
  obtain ⟨i1, i2, i3⟩ := I
  have l := ps_ch_lt P h
  refine ⟨by omega, hk, by omega, ?_⟩
  intro j h1 h2
  by_cases y : j < q
  · have := ps_btw P h (by omega) y
    exact fun x => by omega
  · exact i3 j (by omega) h2
theorem an_un {kd : Nat → Int32} {en : Nat → Nat} {o : Int32} {p b d : Nat} (hb : an_B kd en o p b) (hd : an_B kd en o p d) : b = d := by
  obtain ⟨b1, b2, b3, b4⟩ := hb
  obtain ⟨d1, d2, d3, d4⟩ := hd
  by_cases z : b < d
  · exact absurd ⟨d2, d3⟩ (b4 d z d1)
  · by_cases y : d < b
    · exact absurd ⟨b2, b3⟩ (d4 b y b1)
    · omega
