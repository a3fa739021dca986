theorem cl_seg {c : Nat} {kd : Nat → Int32} {en : Nat → Nat} {u p s : Nat} (F : cl_F c kd en u p s) : (∀ t, t < u → cl_r u p t = t) ∧ (∀ x, s ≤ x → x < en s → cl_r u p (u + (x - s)) = x) ∧ (∀ x, en u ≤ x → cl_r u p (x - 2) = x) ∧ u + (en s - s) = en u - 2 ∧ s < en s ∧ en s ≤ c := by
  obtain ⟨P, f1, f2, f3, f4, f5, f6, f7, f8, f9, f10⟩ := F
  have es := P.2.2 s f5
  have e1 := es.1
  have e2 := es.2.1
  rcases f7 with ⟨g1, g2, g3, g4, g5⟩ | ⟨g1, g2, g3, g4⟩
  · refine ⟨?_, ?_, ?_, by omega, e1, e2⟩
    · intro t ht; unfold cl_r; rw [if_pos ht]
    · intro x h1 h2; unfold cl_r; rw [if_neg (by omega), if_neg (by omega)]; omega
    · intro x h1; unfold cl_r; rw [if_neg (by omega), if_neg (by omega)]; omega
  · have e3 : en s = p := by rw [g2]; exact g1.symm
    refine ⟨?_, ?_, ?_, by omega, e1, e2⟩
    · intro t ht; unfold cl_r; rw [if_pos ht]
    · intro x h1 h2; unfold cl_r; rw [if_neg (by omega), if_pos (by omega)]; omega
    · intro x h1; unfold cl_r; rw [if_neg (by omega), if_neg (by omega)]; omega
/-- the leaf that comes next round the list -/
def fn_N (c : Nat) (kd : Nat → Int32) (p n : Nat) : Prop := n < c ∧ kd n = 0 ∧ ((p < n ∧ ∀ j, p < j → j < n → kd j ≠ 0) ∨ ((∀ j, p < j → j < c → kd j ≠ 0) ∧ ∀ j, j < n → kd j ≠ 0))
theorem fn_fl {c : Nat} {kd : Nat → Int32} {en : Nat → Nat} (P : ps_P c kd en) {j : Nat} (hj : j < c) : ∃ d, j + d < c ∧ kd (j + d) = 0 ∧ ∀ t, t < d → kd (j + t) ≠ 0 := by
  obtain ⟨d, h1, h2, h3⟩ := ps_fl P j hj
  have := (P.2.2 j hj).2.1
  exact ⟨d, by omega, h2, h3⟩
theorem fn_a {c : Nat} {kd : Nat → Int32} {p d : Nat} (h1 : p + 1 + d < c) (h2 : kd (p + 1 + d) = 0) (h3 : ∀ t, t < d → kd (p + 1 + t) ≠ 0) : fn_N c kd p (p + 1 + d) := by
  refine ⟨h1, h2, Or.inl ⟨by omega, ?_⟩⟩
  intro j a b
  have := h3 (j - (p + 1)) (by omega)
  rw [show p + 1 + (j - (p + 1)) = j by omega] at this
  exact this
theorem fn_b {c : Nat} {kd : Nat → Int32} {p d : Nat} (hp : p + 1 = c) (h1 : d < c) (h2 : kd d = 0) (h3 : ∀ t, t < d → kd t ≠ 0) : fn_N c kd p d := ⟨h1, h2, Or.inr ⟨fun j a b => by omega, h3⟩⟩
theorem fn_un {c : Nat} {kd : Nat → Int32} {p n m : Nat} (hn : fn_N c kd p n) (hm : fn_N c kd p m) : n = m := by
  obtain ⟨n1, n2, n3⟩ := hn
  obtain ⟨m1, m2, m3⟩ := hm
  rcases n3 with ⟨a1, a2⟩ | ⟨a1, a2⟩ <;> rcases m3 with ⟨b1, b2⟩ | ⟨b1, b2⟩
  · rcases Nat.lt_trichotomy n m with h | h | h
    · exact absurd n2 (b2 n a1 h)
    · exact h
    · exact absurd m2 (a2 m b1 h)
  · exact absurd n2 (b1 n a1 n1)
  · exact absurd m2 (a1 m b1 m1)
  · rcases Nat.lt_trichotomy n m with h | h | h
    · exact absurd n2 (b2 n h)
    · exact h
    · exact absurd m2 (a2 m h)
