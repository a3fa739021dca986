/-- what putInPlace makes of the children's links: x comes where the place q stood -/
def pu_S (c : Nat) (nd en : Nat → Nat) (kd fi se fi' se' : Nat → Int32) (root root' x : Int32) (q : Nat) : Prop :=
  root' = (if q = 0 then x else root) ∧ (∀ j, j < c → kd j ≠ 0 → fi' (nd j) = if j + 1 = q then x else fi (nd j)) ∧ (∀ j, j < c → kd j ≠ 0 → se' (nd j) = if en (j + 1) = q then x else se (nd j)) ∧
  (∀ n, (∀ j, j < c → nd j ≠ n) → fi' n = fi n ∧ se' n = se n)
theorem pu_0 {c : Nat} {nd en po : Nat → Nat} {root x : Int32} {pa fi se ori sh kd vl : Nat → Int32} (T : tr_T c nd en po root pa fi se ori sh kd vl) : pu_S c nd en kd fi se fi se root x x 0 := by
  refine ⟨(if_pos rfl).symm, fun j hj hk => ?_, fun j hj hk => ?_, fun n _ => ⟨rfl, rfl⟩⟩
  · rw [if_neg (by omega)]
  · have := ps_nd T.1 hj hk
    rw [if_neg (by omega)]
theorem pu_1 {c u : Nat} {nd en po : Nat → Nat} {root x : Int32} {pa fi se ori sh kd vl : Nat → Int32} (T : tr_T c nd en po root pa fi se ori sh kd vl) (hu : u < c) (hk : kd u ≠ 0) : pu_S c nd en kd fi se (upd fi (nd u) x) se root root x (u + 1) := by
  have P := T.1
  refine ⟨(if_neg (by omega)).symm, fun j hj hkj => ?_, fun j hj hkj => ?_, fun n hn => ⟨pk_un (fun e => hn u hu e.symm), rfl⟩⟩
  · by_cases z : j = u
    · subst z; rw [pk_us, if_pos rfl]
    · rw [pk_un (fun e => z (tr_inj T hj hu e)), if_neg (by omega)]
  · rw [if_neg]
    intro e
    have a : j = u := ps_un P (q := u + 1) ⟨hj, hkj, Or.inr e.symm⟩ ⟨hu, hk, Or.inl rfl⟩
    subst a
    have := ps_nd P hu hk
    omega
theorem pu_2 {c u : Nat} {nd en po : Nat → Nat} {root x : Int32} {pa fi se ori sh kd vl : Nat → Int32} (T : tr_T c nd en po root pa fi se ori sh kd vl) (hu : u < c) (hk : kd u ≠ 0) : pu_S c nd en kd fi se fi (upd se (nd u) x) root root x (en (u + 1)) := by
  have P := T.1
  have b := ps_nd P hu hk
  refine ⟨(if_neg (by omega)).symm, fun j hj hkj => ?_, fun j hj hkj => ?_, fun n hn => ⟨rfl, pk_un (fun e => hn u hu e.symm)⟩⟩
  · rw [if_neg]
    intro e
    have a : j = u := ps_un P (q := en (u + 1)) ⟨hj, hkj, Or.inl e.symm⟩ ⟨hu, hk, Or.inr rfl⟩
    subst a
    omega
  · by_cases z : j = u
    · subst z; rw [pk_us, if_pos rfl]
    · rw [pk_un (fun e => z (tr_inj T hj hu e)), if_neg]
      intro e
      exact z (ps_un P (q := en (u + 1)) ⟨hj, hkj, Or.inr e.symm⟩ ⟨hu, hk, Or.inr rfl⟩)
/-- where a node hangs: at the root, or as first or as second child -/
theorem pu_w {c q : Nat} {nd en po : Nat → Nat} {root : Int32} {pa fi se ori sh kd vl : Nat → Int32} (T : tr_T c nd en po root pa fi se ori sh kd vl) (hq : q < c) :
    (q = 0 ∧ pa (nd q) = -1) ∨ ∃ u, u < c ∧ kd u ≠ 0 ∧ u < q ∧ pa (nd q) = nI (nd u) ∧ nd u < 15 ∧ ((q = u + 1 ∧ fi (nd u) = nI (nd q)) ∨ (q = en (u + 1) ∧ fi (nd u) = nI (nd (u + 1)) ∧ nd (u + 1) ≠ nd q ∧ nd (u + 1) < 15 ∧ se (nd u) = nI (nd q))) := by
  obtain ⟨P, T2, T3, T4, T5, T6, T7⟩ := id T
  rcases ps_par P q hq with e | ⟨u, h⟩
  · subst e; exact Or.inl ⟨rfl, T4⟩
  · have l := ps_ch_lt P h
    obtain ⟨hu, hk, h⟩ := h
    obtain ⟨t1, t2, t3, t4, t5⟩ := T6 u hu
    obtain ⟨u1, u2, u3, u4, u5, u6⟩ := t5 hk
    obtain ⟨a1, a2, a3, a4, a5, a6⟩ := ps_nd P hu hk
    right
    refine ⟨u, hu, hk, l.1, ?_, t1, ?_⟩
    · rcases h with h | h
      · rw [h]; exact u5
      · rw [h]; exact u6
    · rcases h with h | h
      · exact Or.inl ⟨h, by rw [h]; exact u3⟩
      · exact Or.inr ⟨h, u3, fun e => by have := tr_inj T a5 hq e; omega, (T6 _ a5).1, by rw [h]; exact u4⟩
theorem sp_arr {c p : Nat} {k k1 : Nat → Int32} {a b d : Int32} (h1 : ∀ j, j < p → k1 j = k j) (h2 : ∀ j, p < j → j < c → k1 (j + 2) = k j) : ∀ j, j < c + 2 → upd (upd (upd k1 p a) (p + 1) b) (p + 2) d j = sp_f p a b d k j := by
  intro j hj
  by_cases z0 : j < p
  · rw [pk_un (by omega), pk_un (by omega), pk_un (by omega), h1 j z0]
    unfold sp_f
    rw [if_pos z0]
  · by_cases z1 : j = p
    · subst z1
      rw [pk_un (by omega), pk_un (by omega), pk_us, sp_f0]
    · by_cases z2 : j = p + 1
      · subst z2; rw [pk_un (by omega), pk_us, sp_f1]
      · by_cases z3 : j = p + 2
        · subst z3; rw [pk_us, sp_f2]
        · rw [pk_un (by omega), pk_un (by omega), pk_un (by omega)]
          have e := h2 (j - 2) (by omega) (by omega)
          rw [show j - 2 + 2 = j by omega] at e
          rw [e]
          unfold sp_f
          rw [if_neg z0, if_neg z1, if_neg z2, if_neg z3]
