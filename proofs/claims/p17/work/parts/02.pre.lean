/-- a preorder list of c entries: kd its kinds (0 a leaf), en the end of the part that begins at a place -/
def ps_P (c : Nat) (kd : Nat → Int32) (en : Nat → Nat) : Prop :=
  0 < c ∧ en 0 = c ∧ ∀ i, i < c → i < en i ∧ en i ≤ c ∧ (kd i = 0 → en i = i + 1) ∧ (kd i ≠ 0 → i + 1 < c ∧ en (i + 1) < c ∧ en (en (i + 1)) = en i)
theorem ps_nd {c : Nat} {kd : Nat → Int32} {en : Nat → Nat} (P : ps_P c kd en) {i : Nat} (hi : i < c) (hk : kd i ≠ 0) : i + 1 < en (i + 1) ∧ en (i + 1) < en i ∧ en i ≤ c ∧ en (en (i + 1)) = en i ∧ i + 1 < c ∧ en (i + 1) < c := by
  obtain ⟨_, _, h⟩ := P
  obtain ⟨a1, a2, _, a4⟩ := h i hi
  obtain ⟨b1, b2, b3⟩ := a4 hk
  have h1 := (h (i + 1) b1).1
  have h2 := (h (en (i + 1)) b2).1
  exact ⟨h1, by omega, a2, b3, b1, b2⟩
theorem ps_lf {c : Nat} {kd : Nat → Int32} {en : Nat → Nat} (P : ps_P c kd en) {i : Nat} (hi : i < c) (hk : kd i = 0) : en i = i + 1 := (P.2.2 i hi).2.2.1 hk
theorem ps_up {c : Nat} {kd : Nat → Int32} {en : Nat → Nat} (P : ps_P c kd en) {Q : Nat → Prop} (hl : ∀ i, i < c → kd i = 0 → Q i) (hn : ∀ i, i < c → kd i ≠ 0 → Q (i + 1) → Q (en (i + 1)) → Q i) : ∀ i, i < c → Q i := by
  have key : ∀ m i, c - i ≤ m → i < c → Q i := by
    intro m
    induction m with
    | zero => intro i h hi; omega
    | succ m ih =>
      intro i h hi
      by_cases hk : kd i = 0
      · exact hl i hi hk
      · obtain ⟨a1, a2, a3, a4, a5, a6⟩ := ps_nd P hi hk
        exact hn i hi hk (ih (i + 1) (by omega) a5) (ih (en (i + 1)) (by omega) a6)
  exact fun i hi => key _ i (Nat.le_refl _) hi
theorem ps_nest {c : Nat} {kd : Nat → Int32} {en : Nat → Nat} (P : ps_P c kd en) : ∀ i, i < c → ∀ j, i ≤ j → j < en i → en j ≤ en i := by
  apply ps_up P (Q := fun i => ∀ j, i ≤ j → j < en i → en j ≤ en i)
  · intro i hi hk j h1 h2
    have e := ps_lf P hi hk
    have : j = i := by omega
    subst this
    exact Nat.le_refl _
  · intro i hi hk q1 q2 j h1 h2
    obtain ⟨a1, a2, a3, a4, a5, a6⟩ := ps_nd P hi hk
    by_cases z0 : j = i
    · subst z0; exact Nat.le_refl _
    · by_cases z1 : j < en (i + 1)
      · have := q1 j (by omega) z1
        omega
      · have := q2 j (by omega) (by omega)
        omega
theorem ps_down {c : Nat} {kd : Nat → Int32} {en : Nat → Nat} (P : ps_P c kd en) {Q : Nat → Prop} (h0 : Q 0) (hn : ∀ i, i < c → kd i ≠ 0 → Q i → Q (i + 1) ∧ Q (en (i + 1))) : ∀ j, j < c → Q j := by
  have key := ps_up P (Q := fun i => Q i → ∀ j, i ≤ j → j < en i → Q j)
    (fun i hi hk q j h1 h2 => by
      have e := ps_lf P hi hk
      have : j = i := by omega
      subst this
      exact q)
    (fun i hi hk q1 q2 q j h1 h2 => by
      obtain ⟨a1, a2, a3, a4, a5, a6⟩ := ps_nd P hi hk
      by_cases z0 : j = i
      · subst z0; exact q
      · by_cases z1 : j < en (i + 1)
        · exact q1 (hn i hi hk q).1 j (by omega) z1
        · exact q2 (hn i hi hk q).2 j (by omega) (by omega))
  intro j hj
  exact key 0 P.1 h0 j (Nat.zero_le _) (by rw [P.2.1]; exact hj)
/-- u is the place of a split, q the place of one of its two children -/
def ps_ch (kd : Nat → Int32) (en : Nat → Nat) (c u q : Nat) : Prop := u < c ∧ kd u ≠ 0 ∧ (q = u + 1 ∨ q = en (u + 1))
theorem ps_par {c : Nat} {kd : Nat → Int32} {en : Nat → Nat} (P : ps_P c kd en) : ∀ q, q < c → q = 0 ∨ ∃ u, ps_ch kd en c u q := by
  apply ps_down P (Q := fun q => q = 0 ∨ ∃ u, ps_ch kd en c u q)
  · exact Or.inl rfl
  · intro i hi hk _
    exact ⟨Or.inr ⟨i, hi, hk, Or.inl rfl⟩, Or.inr ⟨i, hi, hk, Or.inr rfl⟩⟩
theorem ps_ch_lt {c : Nat} {kd : Nat → Int32} {en : Nat → Nat} (P : ps_P c kd en) {u q : Nat} (h : ps_ch kd en c u q) : u < q ∧ q < c ∧ q < en u ∧ en q ≤ en u := by
  obtain ⟨hu, hk, h⟩ := h
  obtain ⟨a1, a2, a3, a4, a5, a6⟩ := ps_nd P hu hk
  rcases h with h | h <;> subst h <;> omega
theorem ps_un {c : Nat} {kd : Nat → Int32} {en : Nat → Nat} (P : ps_P c kd en) {u w q : Nat} (h : ps_ch kd en c u q) (h' : ps_ch kd en c w q) : u = w := by
  have key : ∀ u w, ps_ch kd en c u q → ps_ch kd en c w q → ¬ u < w := by
    intro u w h h' z
    have l' := ps_ch_lt P h'
    obtain ⟨hu, hk, h⟩ := h
    obtain ⟨hw, hk', h'⟩ := h'
    obtain ⟨a1, a2, a3, a4, a5, a6⟩ := ps_nd P hu hk
    obtain ⟨b1, b2, b3, b4, b5, b6⟩ := ps_nd P hw hk'
    rcases h with h | h
    · omega
    · have n := ps_nest P (u + 1) a5 w (by omega) (by omega)
      rcases h' with h' | h' <;> omega
  have a := key u w h h'
  have b := key w u h' h
  omega
/-- between a split and its child stands no place whose part reaches beyond the child's begin -/
theorem ps_btw {c : Nat} {kd : Nat → Int32} {en : Nat → Nat} (P : ps_P c kd en) {u q j : Nat} (h : ps_ch kd en c u q) (h1 : u < j) (h2 : j < q) : en j ≤ q := by
  obtain ⟨hu, hk, h⟩ := h
  obtain ⟨a1, a2, a3, a4, a5, a6⟩ := ps_nd P hu hk
  rcases h with h | h
  · omega
  · subst h
    exact ps_nest P (u + 1) a5 j (by omega) h2
/-- the leaves are one more than the splits -/
theorem ps_cnt {c : Nat} {kd : Nat → Int32} {en : Nat → Nat} (P : ps_P c kd en) : ∀ i, i < c → cc_n (fun j => kd j = 0) (en i) + cc_n (fun j => kd j ≠ 0) i = cc_n (fun j => kd j ≠ 0) (en i) + cc_n (fun j => kd j = 0) i + 1 := by
  apply ps_up P (Q := fun i => cc_n (fun j => kd j = 0) (en i) + cc_n (fun j => kd j ≠ 0) i = cc_n (fun j => kd j ≠ 0) (en i) + cc_n (fun j => kd j = 0) i + 1)
  · intro i hi hk
    show cc_n (fun j => kd j = 0) (en i) + cc_n (fun j => kd j ≠ 0) i = cc_n (fun j => kd j ≠ 0) (en i) + cc_n (fun j => kd j = 0) i + 1
    rw [ps_lf P hi hk, cc_s, cc_s, cc_bt hk, cc_bf (P := kd i ≠ 0) (fun z => z hk)]
    omega
  · intro i hi hk q1 q2
    obtain ⟨a1, a2, a3, a4, a5, a6⟩ := ps_nd P hi hk
    have q1 : cc_n (fun j => kd j = 0) (en (i + 1)) + cc_n (fun j => kd j ≠ 0) (i + 1) = cc_n (fun j => kd j ≠ 0) (en (i + 1)) + cc_n (fun j => kd j = 0) (i + 1) + 1 := q1
    have q2 : cc_n (fun j => kd j = 0) (en (en (i + 1))) + cc_n (fun j => kd j ≠ 0) (en (i + 1)) = cc_n (fun j => kd j ≠ 0) (en (en (i + 1))) + cc_n (fun j => kd j = 0) (en (i + 1)) + 1 := q2
    show cc_n (fun j => kd j = 0) (en i) + cc_n (fun j => kd j ≠ 0) i = cc_n (fun j => kd j ≠ 0) (en i) + cc_n (fun j => kd j = 0) i + 1
    rw [cc_s, cc_s, cc_bt hk, cc_bf (P := kd i = 0) hk] at q1
    rw [a4] at q2
    omega
theorem ps_cnt0 {c : Nat} {kd : Nat → Int32} {en : Nat → Nat} (P : ps_P c kd en) : cc_n (fun j => kd j = 0) c = cc_n (fun j => kd j ≠ 0) c + 1 := by
  have h := ps_cnt P 0 P.1
  rw [P.2.1] at h
  have e1 : cc_n (fun j => kd j ≠ 0) 0 = 0 := rfl
  have e2 : cc_n (fun j => kd j = 0) 0 = 0 := rfl
  omega
/-- a stack of s entries: the t-th says Q of the t-th place of the chain j, en j, en (en j) .. up to e -/
def ps_st (en : Nat → Nat) (Q : Nat → Nat → Prop) (e : Nat) : Nat → Nat → Prop
  | 0, j => j = e
  | s + 1, j => j < e ∧ Q s j ∧ ps_st en Q e s (en j)
theorem ps_st_mono {en : Nat → Nat} {Q R : Nat → Nat → Prop} {e : Nat} : ∀ {s j : Nat}, (∀ t j, t < s → Q t j → R t j) → ps_st en Q e s j → ps_st en R e s j
  | 0, _, _, h => h
  | _ + 1, _, m, h => ⟨h.1, m _ _ (by omega) h.2.1, ps_st_mono (fun t j ht => m t j (by omega)) h.2.2⟩
theorem ps_st_len {c : Nat} {kd : Nat → Int32} {en : Nat → Nat} (P : ps_P c kd en) {Q : Nat → Nat → Prop} {e : Nat} (he : e ≤ c) : ∀ {s j : Nat}, ps_st en Q e s j → j + s ≤ e
  | 0, j, h => by have h : j = e := h; omega
  | s + 1, j, h => by
    have h1 : j < e := h.1
    have h2 := ps_st_len P he h.2.2
    have h3 := (P.2.2 j (by omega)).1
    omega
theorem ps_st_pos {en : Nat → Nat} {Q : Nat → Nat → Prop} {e s j : Nat} (h : ps_st en Q e s j) (hj : j < e) : ∃ t, s = t + 1 := by
  cases s with
  | zero => have h : j = e := h; omega
  | succ t => exact ⟨t, rfl⟩
theorem ps_st_end {en : Nat → Nat} {Q : Nat → Nat → Prop} {e s : Nat} (h : ps_st en Q e s e) : s = 0 := by
  cases s with
  | zero => rfl
  | succ t => have h : e < e := h.1; omega
/-- the first leaf at j or behind it, found by going to the first child -/
theorem ps_fl {c : Nat} {kd : Nat → Int32} {en : Nat → Nat} (P : ps_P c kd en) : ∀ i, i < c → ∃ d, i + d < en i ∧ kd (i + d) = 0 ∧ ∀ t, t < d → kd (i + t) ≠ 0 := by
  apply ps_up P (Q := fun i => ∃ d, i + d < en i ∧ kd (i + d) = 0 ∧ ∀ t, t < d → kd (i + t) ≠ 0)
  · intro i hi hk
    exact ⟨0, (P.2.2 i hi).1, hk, fun t ht => by omega⟩
  · intro i hi hk q1 _
    obtain ⟨a1, a2, a3, a4, a5, a6⟩ := ps_nd P hi hk
    obtain ⟨d, h1, h2, h3⟩ := q1
    refine ⟨d + 1, by omega, ?_, ?_⟩
    · rw [show i + (d + 1) = i + 1 + d by omega]; exact h2
    · intro t ht
      cases t with
      | zero => exact hk
      | succ t =>
        rw [show i + (t + 1) = i + 1 + t by omega]
        exact h3 t (by omega)
