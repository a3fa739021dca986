def cl_d (P p q : Nat) : Nat := if q ≤ P then q else if q ≤ p then q - 1 else q - 2
def cl_r (P p j : Nat) : Nat := if j < P then j else if j + 1 < p then j + 1 else j + 2
theorem cl_rn {P p j : Nat} (h : P < p) : cl_r P p j ≠ P ∧ cl_r P p j ≠ p ∧ cl_r P p j ≤ j + 2 ∧ cl_d P p (cl_r P p j) = j := by
  unfold cl_r cl_d; (repeat' split) <;> omega
theorem cl_dr {P p q : Nat} (h : P < p) (h1 : q ≠ P) (h2 : q ≠ p) : cl_r P p (cl_d P p q) = q := by
  unfold cl_r cl_d; (repeat' split) <;> omega
/-- the split at u goes with its leaf at p, and the other child at s comes into its place -/
def cl_F (c : Nat) (kd : Nat → Int32) (en : Nat → Nat) (u p s : Nat) : Prop :=
  ps_P c kd en ∧ u < c ∧ kd u ≠ 0 ∧ kd p = 0 ∧ p < c ∧ s < c ∧ u < p ∧ ((p = u + 1 ∧ s = u + 2 ∧ en u = en s ∧ en s = en (u + 2) ∧ en (u + 1) = u + 2) ∨ (p = en (u + 1) ∧ s = u + 1 ∧ en u = p + 1 ∧ u + 1 < p)) ∧ u + 3 ≤ en u ∧ p < en u ∧ en u ≤ c
theorem cl_mk {c : Nat} {kd : Nat → Int32} {en : Nat → Nat} {u p s : Nat} (P : ps_P c kd en) (hk : kd p = 0) (h : ps_ch kd en c u p) (hs : s = if p = u + 1 then u + 2 else u + 1) : cl_F c kd en u p s := by
  obtain ⟨hu, hku, h⟩ := h
  obtain ⟨a1, a2, a3, a4, a5, a6⟩ := ps_nd P hu hku
  rcases h with h | h
  · subst h
    rw [if_pos rfl] at hs
    have e := ps_lf P a5 hk
    rw [e] at a1 a2 a4 a6
    subst hs
    exact ⟨P, hu, hku, hk, a5, a6, by omega, Or.inl ⟨rfl, rfl, a4.symm, rfl, e⟩, by omega, by omega, a3⟩
  · have e := ps_lf P a6 (by rw [← h]; exact hk)
    rw [if_neg (by omega)] at hs
    subst hs
    exact ⟨P, hu, hku, hk, by omega, a5, by omega, Or.inr ⟨h, rfl, by omega, by omega⟩, by omega, by omega, a3⟩
theorem cl_lt {c : Nat} {kd : Nat → Int32} {en : Nat → Nat} {u p s : Nat} (F : cl_F c kd en u p s) {t : Nat} (ht : t < c) (hp : t ≠ p) : cl_d u p t < c - 2 := by
  obtain ⟨P, f1, f2, f3, f4, f5, f6, f7, f8, f9, f10⟩ := F
  unfold cl_d; (repeat' split) <;> omega
theorem cl_r0 {c : Nat} {kd : Nat → Int32} {en : Nat → Nat} {u p s : Nat} (F : cl_F c kd en u p s) : cl_r u p u = s := by
  obtain ⟨P, f1, f2, f3, f4, f5, f6, f7, f8, f9, f10⟩ := F
  unfold cl_r
  rcases f7 with ⟨g1, g2, g3, g4, g5⟩ | ⟨g1, g2, g3, g4⟩
  · rw [if_neg (by omega), if_neg (by omega)]; omega
  · rw [if_neg (by omega), if_pos (by omega)]; omega
theorem cl_rt {c : Nat} {kd : Nat → Int32} {en : Nat → Nat} {u p s : Nat} (F : cl_F c kd en u p s) {t : Nat} (hp : t ≠ p) : cl_r u p (cl_d u p t) = if t = u then s else t := by
  by_cases z : t = u
  · subst z
    rw [if_pos rfl]
    have e : cl_d t p t = t := if_pos (Nat.le_refl _)
    rw [e]
    exact cl_r0 F
  · rw [if_neg z]
    exact cl_dr F.2.2.2.2.2.2.1 z hp
theorem cl_en {c : Nat} {kd : Nat → Int32} {en : Nat → Nat} {u p s : Nat} (F : cl_F c kd en u p s) {t : Nat} (hp : t ≠ p) : cl_d u p (en (cl_r u p (cl_d u p t))) = cl_d u p (en t) := by
  rw [cl_rt F hp]
  by_cases z : t = u
  · subst z
    rw [if_pos rfl]
    obtain ⟨P, f1, f2, f3, f4, f5, f6, f7, f8, f9, f10⟩ := F
    rcases f7 with ⟨g1, g2, g3, g4, g5⟩ | ⟨g1, g2, g3, g4⟩
    · rw [g3]
    · rw [g2, ← g1, g3]
      unfold cl_d
      rw [if_neg (by omega), if_pos (Nat.le_refl _), if_neg (by omega), if_neg (by omega)]
      omega
  · rw [if_neg z]
theorem cl_s1 {u p q : Nat} (h : u < p) (h1 : q ≠ u) (h2 : q ≠ p) : cl_d u p (q + 1) = cl_d u p q + 1 := by
  unfold cl_d; (repeat' split) <;> omega
theorem cl_par {c : Nat} {kd : Nat → Int32} {en : Nat → Nat} {u p s : Nat} (F : cl_F c kd en u p s) {q : Nat} (hq : q < c) (hk : kd q ≠ 0) (hu : q ≠ u) : q + 1 ≠ p ∧ en (q + 1) ≠ p := by
  obtain ⟨P, f1, f2, f3, f4, f5, f6, f7, f8, f9, f10⟩ := F
  have hc : ps_ch kd en c u p := ⟨f1, f2, by rcases f7 with g | g; exact Or.inl g.1; exact Or.inr g.1⟩
  exact ⟨fun e => hu (ps_un P ⟨hq, hk, Or.inl e.symm⟩ hc), fun e => hu (ps_un P ⟨hq, hk, Or.inr e.symm⟩ hc)⟩
theorem cl_P {c : Nat} {kd kd' : Nat → Int32} {en : Nat → Nat} {u p s : Nat} (F : cl_F c kd en u p s) (h' : ∀ j, j < c - 2 → kd' j = kd (cl_r u p j)) : ps_P (c - 2) kd' (fun j => cl_d u p (en (cl_r u p j))) := by
  have EN := fun t (h : t ≠ p) => cl_en F (t := t) h
  have LT := fun t (h : t < c) (h' : t ≠ p) => cl_lt F (t := t) h h'
  have PAR := fun q (h : q < c) h' h'' => cl_par F (q := q) h h' h''
  obtain ⟨P, f1, f2, f3, f4, f5, f6, f7, f8, f9, f10⟩ := id F
  refine ⟨by omega, ?_, ?_⟩
  · have e := EN 0 (by omega)
    have e0 : cl_d u p 0 = 0 := if_pos (Nat.zero_le _)
    rw [e0, P.2.1] at e
    show cl_d u p (en (cl_r u p 0)) = c - 2
    rw [e]
    unfold cl_d
    rw [if_neg (by omega), if_neg (by omega)]
  · intro j hj
    dsimp only
    rw [h' j hj]
    obtain ⟨r1, r2, r3, r4⟩ := cl_rn (P := u) (p := p) (j := j) f6
    have hq : cl_r u p j < c := by omega
    generalize hqe : cl_r u p j = q at r1 r2 r3 r4 hq ⊢
    obtain ⟨a1, a2, a3, a4⟩ := P.2.2 q hq
    have nu : q < u → u < en q → en u ≤ en q := fun h h' => ps_nest P q hq u (by omega) h'
    have n1 : u < q → q < p → en q ≤ p := by
      intro h h'
      rcases f7 with ⟨g1, g2, g3, g4, g5⟩ | ⟨g1, g2, g3, g4⟩
      · omega
      · have := ps_nest P (u + 1) (by omega) q (by omega) (by omega)
        omega
    refine ⟨?_, ?_, ?_, ?_⟩
    · rw [← r4]
      unfold cl_d; (repeat' split) <;> omega
    · unfold cl_d; (repeat' split) <;> omega
    · intro hz
      rw [a3 hz, cl_s1 f6 r1 r2, r4]
    · intro hz
      obtain ⟨d1, d2, d3⟩ := a4 hz
      obtain ⟨p1, p2⟩ := PAR q hq hz r1
      have e1 : j + 1 = cl_d u p (q + 1) := by rw [cl_s1 f6 r1 r2, r4]
      rw [e1, EN _ p1, EN _ p2, d3]
      exact ⟨LT _ d1 p1, LT _ d2 p2, rfl⟩
theorem tr_close {c u p s : Nat} {nd en po : Nat → Nat} {root root' : Int32} {pa fi se ori sh kd vl pa' fi' se' ori' kd' vl' : Nat → Int32} (T : tr_T c nd en po root pa fi se ori sh kd vl) (F : cl_F c kd en u p s)
    (hkd : ∀ j, j < c - 2 → kd' j = kd (cl_r u p j)) (hvl : ∀ j, j < c - 2 → vl' j = vl (cl_r u p j))
    (hroot : root' = if u = 0 then nI (nd s) else root)
    (hfi : ∀ j, j < c → j ≠ u → kd j ≠ 0 → fi' (nd j) = if j + 1 = u then nI (nd s) else fi (nd j))
    (hse : ∀ j, j < c → j ≠ u → kd j ≠ 0 → se' (nd j) = if en (j + 1) = u then nI (nd s) else se (nd j))
    (hpa : ∀ j, j < c → j ≠ s → pa' (nd j) = pa (nd j)) (hpas : pa' (nd s) = pa (nd u))
    (hori : ∀ n, n ≠ nd u → ori' n = ori n) (horiu : ori' (nd u) = 0) :
    tr_T (c - 2) (fun j => nd (cl_r u p j)) (fun j => cl_d u p (en (cl_r u p j))) (fun n => cl_d u p (po n)) root' pa' fi' se' ori' sh kd' vl' := by
  obtain ⟨P, T2, T3, T4, T5, T6, T7⟩ := id T
  have EN := fun t (h : t ≠ p) => cl_en F (t := t) h
  have RT := fun t (h : t ≠ p) => cl_rt F (t := t) h
  have PAR := fun q (h : q < c) h' h'' => cl_par F (q := q) h h' h''
  have NP := cl_P F hkd
  obtain ⟨_, f1, f2, f3, f4, f5, f6, f7, f8, f9, f10⟩ := id F
  have su : s ≠ u := by rcases f7 with g | g <;> omega
  have d0 : cl_d u p 0 = 0 := if_pos (Nat.zero_le _)
  have r0 : cl_r u p 0 = if 0 = u then s else 0 := by
    have := RT 0 (by omega)
    rw [d0] at this
    exact this
  refine ⟨NP, by omega, ?_, ?_, ?_, ?_, ?_⟩
  · dsimp only
    rw [hroot, r0, T3]
    by_cases z : u = 0
    · rw [if_pos z, if_pos z.symm]
    · rw [if_neg z, if_neg (fun h => z h.symm)]
  · dsimp only
    rw [r0]
    by_cases z : 0 = u
    · rw [if_pos z, hpas, ← z, T4]
    · rw [if_neg z, hpa 0 (by omega) (by rcases f7 with g | g <;> omega), T4]
  · intro i hi
    rw [hkd i hi, hvl i hi]
    have r := cl_rn (P := u) (p := p) (j := i) f6
    exact T5 _ (by omega)
  · intro j hj
    unfold tr_t
    dsimp only
    rw [hkd j hj, hvl j hj]
    obtain ⟨r1, r2, r3, r4⟩ := cl_rn (P := u) (p := p) (j := j) f6
    have hq : cl_r u p j < c := by omega
    generalize hqe : cl_r u p j = q at r1 r2 r3 r4 hq ⊢
    obtain ⟨t1, t2, t3, t4, t5⟩ := T6 q hq
    have qu : nd q ≠ nd u := fun h => r1 (tr_inj T hq f1 h)
    rw [t2, r4, hori _ qu]
    refine ⟨t1, rfl, t3, t4, ?_⟩
    intro hz
    obtain ⟨u1, u2, u3, u4, u5, u6⟩ := t5 hz
    obtain ⟨a1, a2, a3, a4, a5, a6⟩ := ps_nd P hq hz
    obtain ⟨p1, p2⟩ := PAR q hq hz r1
    have e1 : j + 1 = cl_d u p (q + 1) := by rw [cl_s1 f6 r1 r2, r4]
    rw [e1, EN _ p1, RT _ p1, RT _ p2, hfi q hq r1 hz, hse q hq r1 hz]
    have hsu : ps_ch kd en c u s := ⟨f1, f2, by
      rcases f7 with ⟨g1, g2, g3, g4, g5⟩ | ⟨g1, g2, g3, g4⟩
      · right; omega
      · left; exact g2⟩
    have s1 : q + 1 ≠ s := fun e => r1 (ps_un P ⟨hq, hz, Or.inl e.symm⟩ hsu)
    have s2 : en (q + 1) ≠ s := fun e => r1 (ps_un P ⟨hq, hz, Or.inr e.symm⟩ hsu)
    refine ⟨u1, u2, ?_, ?_, ?_, ?_⟩
    · by_cases y : q + 1 = u
      · rw [if_pos y, if_pos y]
      · rw [if_neg y, if_neg y]; exact u3
    · by_cases y : en (q + 1) = u
      · rw [if_pos y, if_pos y]
      · rw [if_neg y, if_neg y]; exact u4
    · by_cases y : q + 1 = u
      · rw [if_pos y, hpas, ← y]; exact u5
      · rw [if_neg y, hpa _ a5 s1]; exact u5
    · by_cases y : en (q + 1) = u
      · rw [if_pos y, hpas, ← y]; exact u6
      · rw [if_neg y, hpa _ a6 s2]; exact u6
  · intro n hn h
    by_cases z : n = nd u
    · rw [z]; exact horiu
    · rw [hori n z]
      by_cases y : n = nd p
      · rw [y, (T6 p f4).2.2.1, f3]
      · apply T7 n hn
        intro i hi e
        have iu : i ≠ u := fun k => z (by rw [← e, k])
        have ip : i ≠ p := fun k => y (by rw [← e, k])
        have g := h (cl_d u p i) (cl_lt F hi ip)
        dsimp only at g
        rw [RT _ ip, if_neg iu] at g
        exact g e
