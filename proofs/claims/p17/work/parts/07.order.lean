/-- the nodes listed so far: o the place of the j-th listed, k how many, i how many have been looked at -/
def bf_I (c : Nat) (kd : Nat → Int32) (en : Nat → Nat) (i k : Nat) (o : Nat → Nat) : Prop :=
  i ≤ k ∧ 1 ≤ k ∧ k ≤ c ∧ o 0 = 0 ∧ (∀ j, j < k → o j < c) ∧ (∀ a b, a < k → b < k → o a = o b → a = b) ∧
  (∀ j, j < i → kd (o j) ≠ 0 → (∃ a, j < a ∧ a < k ∧ o a = o j + 1) ∧ (∃ b, j < b ∧ b < k ∧ o b = en (o j + 1))) ∧
  (∀ j, 0 < j → j < k → ∃ b, b < i ∧ ps_ch kd en c (o b) (o j))
theorem bf_0 {c : Nat} {kd : Nat → Int32} {en : Nat → Nat} (P : ps_P c kd en) : bf_I c kd en 0 1 (fun _ => 0) :=
  ⟨by omega, by omega, P.1, rfl, fun _ _ => P.1, fun a b _ _ _ => by omega, fun j h => by omega, fun j h h' => by omega⟩
theorem bf_leaf {c : Nat} {kd : Nat → Int32} {en : Nat → Nat} {i k : Nat} {o : Nat → Nat} (I : bf_I c kd en i k o) (h : i < k) (hk : kd (o i) = 0) : bf_I c kd en (i + 1) k o := by
  obtain ⟨i1, i2, i3, i4, i5, i6, i7, i8⟩ := I
  refine ⟨h, i2, i3, i4, i5, i6, ?_, ?_⟩
  · intro j hj hz
    by_cases z : j = i
    · subst z; exact absurd hk hz
    · exact i7 j (by omega) hz
  · intro j h1 h2
    obtain ⟨b, b1, b2⟩ := i8 j h1 h2
    exact ⟨b, by omega, b2⟩
def bf_o (o : Nat → Nat) (k a b : Nat) : Nat → Nat := fun j => if j = k then a else if j = k + 1 then b else o j
theorem bf_oo {o : Nat → Nat} {k a b j : Nat} (h : j < k) : bf_o o k a b j = o j := by
  unfold bf_o
  rw [if_neg (by omega), if_neg (by omega)]
theorem bf_o0 {o : Nat → Nat} {k a b : Nat} : bf_o o k a b k = a := if_pos rfl
theorem bf_o1 {o : Nat → Nat} {k a b : Nat} : bf_o o k a b (k + 1) = b := by
  unfold bf_o
  rw [if_neg (by omega), if_pos rfl]
theorem bf_node {c : Nat} {kd : Nat → Int32} {en : Nat → Nat} (P : ps_P c kd en) {i k : Nat} {o : Nat → Nat} (I : bf_I c kd en i k o) (h : i < k) (hk : kd (o i) ≠ 0) : bf_I c kd en (i + 1) (k + 2) (bf_o o k (o i + 1) (en (o i + 1))) := by
  obtain ⟨i1, i2, i3, i4, i5, i6, i7, i8⟩ := I
  obtain ⟨a1, a2, a3, a4, a5, a6⟩ := ps_nd P (i5 i h) hk
  have n1 : ∀ j, j < k → o j ≠ o i + 1 ∧ o j ≠ en (o i + 1) := by
    intro j hj
    by_cases z : j = 0
    · subst z; rw [i4]; omega
    · obtain ⟨b, b1, b2⟩ := i8 j (by omega) hj
      constructor
      · intro e
        have := i6 b i (by omega) h (ps_un P b2 ⟨i5 i h, hk, Or.inl e⟩)
        omega
      · intro e
        have := i6 b i (by omega) h (ps_un P b2 ⟨i5 i h, hk, Or.inr e⟩)
        omega
  have v : ∀ j, j < k + 2 → (j < k ∧ bf_o o k (o i + 1) (en (o i + 1)) j = o j) ∨ (j = k ∧ bf_o o k (o i + 1) (en (o i + 1)) j = o i + 1) ∨ (j = k + 1 ∧ bf_o o k (o i + 1) (en (o i + 1)) j = en (o i + 1)) := by
    intro j hj
    by_cases z : j < k
    · exact Or.inl ⟨z, bf_oo z⟩
    · by_cases z2 : j = k
      · subst z2; exact Or.inr (Or.inl ⟨rfl, bf_o0⟩)
      · have e : j = k + 1 := by omega
        subst e; exact Or.inr (Or.inr ⟨rfl, bf_o1⟩)
  have inj : ∀ a b, a < k + 2 → b < k + 2 → bf_o o k (o i + 1) (en (o i + 1)) a = bf_o o k (o i + 1) (en (o i + 1)) b → a = b := by
    intro a b ha hb e
    rcases v a ha with ⟨x, ea⟩ | ⟨x, ea⟩ | ⟨x, ea⟩ <;> rcases v b hb with ⟨y, eb⟩ | ⟨y, eb⟩ | ⟨y, eb⟩ <;> rw [ea, eb] at e
    · exact i6 a b x y e
    · exact absurd e (n1 a x).1
    · exact absurd e (n1 a x).2
    · exact absurd e.symm (n1 b y).1
    · omega
    · omega
    · exact absurd e.symm (n1 b y).2
    · omega
    · omega
  have lt : ∀ j, j < k + 2 → bf_o o k (o i + 1) (en (o i + 1)) j < c := by
    intro j hj
    rcases v j hj with ⟨x, ea⟩ | ⟨x, ea⟩ | ⟨x, ea⟩ <;> rw [ea]
    · exact i5 j x
    · exact a5
    · exact a6
  refine ⟨by omega, by omega, cc_pig lt inj, by rw [bf_oo (by omega)]; exact i4, lt, inj, ?_, ?_⟩
  · intro j hj hz
    rw [bf_oo (by omega)] at hz ⊢
    by_cases z : j = i
    · subst z
      exact ⟨⟨k, by omega, by omega, bf_o0⟩, ⟨k + 1, by omega, by omega, bf_o1⟩⟩
    · obtain ⟨⟨a, b1, b2, b3⟩, ⟨b, d1, d2, d3⟩⟩ := i7 j (by omega) hz
      exact ⟨⟨a, b1, by omega, by rw [bf_oo b2]; exact b3⟩, ⟨b, d1, by omega, by rw [bf_oo d2]; exact d3⟩⟩
  · intro j h1 h2
    rcases v j h2 with ⟨x, ea⟩ | ⟨x, ea⟩ | ⟨x, ea⟩ <;> rw [ea]
    · obtain ⟨b, b1, b2⟩ := i8 j h1 x
      exact ⟨b, by omega, by rw [bf_oo (by omega)]; exact b2⟩
    · exact ⟨i, by omega, by rw [bf_oo h]; exact ⟨i5 i h, hk, Or.inl rfl⟩⟩
    · exact ⟨i, by omega, by rw [bf_oo h]; exact ⟨i5 i h, hk, Or.inr rfl⟩⟩
/-- all are listed, each ahead of its children -/
def bf_O (c : Nat) (kd : Nat → Int32) (en : Nat → Nat) (k : Nat) (o : Nat → Nat) : Prop :=
  1 ≤ k ∧ k ≤ c ∧ o 0 = 0 ∧ (∀ j, j < k → o j < c) ∧ (∀ a b, a < k → b < k → o a = o b → a = b) ∧
  (∀ j, j < k → kd (o j) ≠ 0 → (∃ a, j < a ∧ a < k ∧ o a = o j + 1) ∧ (∃ b, j < b ∧ b < k ∧ o b = en (o j + 1))) ∧ (∀ q, q < c → ∃ j, j < k ∧ o j = q)
theorem bf_done {c : Nat} {kd : Nat → Int32} {en : Nat → Nat} (P : ps_P c kd en) {k : Nat} {o : Nat → Nat} (I : bf_I c kd en k k o) : bf_O c kd en k o := by
  obtain ⟨i1, i2, i3, i4, i5, i6, i7, i8⟩ := I
  refine ⟨i2, i3, i4, i5, i6, i7, ?_⟩
  apply ps_down P (Q := fun q => ∃ j, j < k ∧ o j = q)
  · exact ⟨0, by omega, i4⟩
  · intro q hq hk ⟨j, hj, e⟩
    subst e
    obtain ⟨⟨a, b1, b2, b3⟩, ⟨b, d1, d2, d3⟩⟩ := i7 j hj hk
    exact ⟨⟨a, b2, b3⟩, ⟨b, d2, d3⟩⟩
theorem la_l_upd {kd : Nat → Int32} {nd en : Nat → Nat} {lw lh : Nat → Int32} {i n : Nat} {x y : Int32} (h : la_l kd nd en lw lh i) (h0 : nd i ≠ n) (h1 : kd i ≠ 0 → nd (i + 1) ≠ n ∧ nd (en (i + 1)) ≠ n) : la_l kd nd en (upd lw n x) (upd lh n y) i := by
  obtain ⟨a, b, d⟩ := h
  refine ⟨fun z => ?_, fun z => ?_, fun z => ?_⟩
  · rw [pk_un h0, pk_un h0]; exact a z
  · obtain ⟨q1, q2⟩ := h1 (ge_10 z)
    rw [pk_un h0, pk_un h0, pk_un q1, pk_un q1, pk_un q2, pk_un q2]; exact b z
  · obtain ⟨q1, q2⟩ := h1 (ge_20 z)
    rw [pk_un h0, pk_un h0, pk_un q1, pk_un q1, pk_un q2, pk_un q2]; exact d z
theorem bf_ms {c k i : Nat} {kd : Nat → Int32} {nd en o : Nat → Nat} {lw lh : Nat → Int32} {x y : Int32} (P : ps_P c kd en) (ND : ∀ a b, a < c → b < c → nd a = nd b → a = b) (O : bf_O c kd en k o) (hi : i < k)
    (h : ∀ j, i < j → j < k → la_l kd nd en lw lh (o j)) (h0 : kd (o i) = 0 → x = 1 ∧ y = 1)
    (h1 : kd (o i) = 1 → x = lw (nd (o i + 1)) + 1 + lw (nd (en (o i + 1))) ∧ y = la_mx (lh (nd (o i + 1))) (lh (nd (en (o i + 1)))))
    (h2 : kd (o i) = 2 → x = la_mx (lw (nd (o i + 1))) (lw (nd (en (o i + 1)))) ∧ y = lh (nd (o i + 1)) + 1 + lh (nd (en (o i + 1)))) :
    ∀ j, i ≤ j → j < k → la_l kd nd en (upd lw (nd (o i)) x) (upd lh (nd (o i)) y) (o j) := by
  obtain ⟨o1, o2, o3, o4, o5, o6, o7⟩ := O
  intro j hj hk
  have ne : ∀ a, i < a → a < k → nd (o a) ≠ nd (o i) := fun a h1 h2 e => by
    have := o5 a i h2 hi (ND _ _ (o4 a h2) (o4 i hi) e)
    omega
  have kids : kd (o j) ≠ 0 → nd (o j + 1) ≠ nd (o i) ∧ nd (en (o j + 1)) ≠ nd (o i) := by
    intro z
    obtain ⟨⟨a, b1, b2, b3⟩, ⟨b, d1, d2, d3⟩⟩ := o6 j hk z
    rw [← d3, ← b3]
    exact ⟨ne a (by omega) b2, ne b (by omega) d2⟩
  by_cases z : j = i
  · subst z
    refine ⟨fun z => ?_, fun z => ?_, fun z => ?_⟩
    · rw [pk_us, pk_us]; exact h0 z
    · obtain ⟨q1, q2⟩ := kids (ge_10 z)
      rw [pk_us, pk_us, pk_un q1, pk_un q1, pk_un q2, pk_un q2]; exact h1 z
    · obtain ⟨q1, q2⟩ := kids (ge_20 z)
      rw [pk_us, pk_us, pk_un q1, pk_un q1, pk_un q2, pk_un q2]; exact h2 z
  · exact la_l_upd (h j (by omega) hk) (ne j (by omega) hk) kids
theorem bf_all {c k : Nat} {kd : Nat → Int32} {nd en o : Nat → Nat} {lw lh : Nat → Int32} (O : bf_O c kd en k o) (h : ∀ j, j < k → la_l kd nd en lw lh (o j)) : la_L c kd nd en lw lh := by
  intro i hi
  obtain ⟨j, hj, e⟩ := O.2.2.2.2.2.2 i hi
  rw [← e]
  exact h j hj
/-- the rectangles placed so far, those of the children of the first i listed nodes -/
def bf_R (c k i : Nat) (kd sh : Nat → Int32) (nd en o : Nat → Nat) (lw lh rx ry rw rh : Nat → Int32) (W0 H0 : Int32) : Prop :=
  rx (nd 0) = 0 ∧ ry (nd 0) = 0 ∧ rw (nd 0) = W0 ∧ rh (nd 0) = H0 ∧ ∀ j, j < i → la_e kd sh nd en lw lh rx ry rw rh (o j)
theorem bf_R1 {c k i : Nat} {kd sh : Nat → Int32} {nd en o : Nat → Nat} {lw lh rx ry rw rh rx' ry' rw' rh' : Nat → Int32} {W0 H0 : Int32} (P : ps_P c kd en) (ND : ∀ a b, a < c → b < c → nd a = nd b → a = b) (O : bf_O c kd en k o) (hi : i < k)
    (R : bf_R c k i kd sh nd en o lw lh rx ry rw rh W0 H0) (hk : kd (o i) ≠ 0)
    (ex : ∀ n, n ≠ nd (o i + 1) → n ≠ nd (en (o i + 1)) → rx' n = rx n ∧ ry' n = ry n ∧ rw' n = rw n ∧ rh' n = rh n)
    (new : la_e kd sh nd en lw lh rx' ry' rw' rh' (o i)) : bf_R c k (i + 1) kd sh nd en o lw lh rx' ry' rw' rh' W0 H0 := by
  obtain ⟨o1, o2, o3, o4, o5, o6, o7⟩ := O
  obtain ⟨r1, r2, r3, r4, r5⟩ := R
  obtain ⟨a1, a2, a3, a4, a5, a6⟩ := ps_nd P (o4 i hi) hk
  obtain ⟨⟨a, b1, b2, b3⟩, ⟨b, d1, d2, d3⟩⟩ := o6 i hi hk
  have n0 := ex (nd 0) (fun e => by have := ND _ _ P.1 a5 e; omega) (fun e => by have := ND _ _ P.1 a6 e; omega)
  refine ⟨n0.1.trans r1, n0.2.1.trans r2, n0.2.2.1.trans r3, n0.2.2.2.trans r4, ?_⟩
  intro j hj
  by_cases z : j = i
  · subst z; exact new
  · have ji : j < i := by omega
    have e0 := ex (nd (o j)) (fun e => by have := o5 j a (by omega) b2 ((ND _ _ (o4 j (by omega)) a5 e).trans b3.symm); omega) (fun e => by have := o5 j b (by omega) d2 ((ND _ _ (o4 j (by omega)) a6 e).trans d3.symm); omega)
    have kid : kd (o j) ≠ 0 → ∀ q, (q = o j + 1 ∨ q = en (o j + 1)) → rx' (nd q) = rx (nd q) ∧ ry' (nd q) = ry (nd q) ∧ rw' (nd q) = rw (nd q) ∧ rh' (nd q) = rh (nd q) := by
      intro y q hq
      have cq : ps_ch kd en c (o j) q := ⟨o4 j (by omega), y, hq⟩
      have lq := ps_ch_lt P cq
      apply ex
      · intro e
        have := ND _ _ lq.2.1 a5 e
        rw [this] at cq
        have := o5 j i (by omega) hi (ps_un P cq ⟨o4 i hi, hk, Or.inl rfl⟩)
        omega
      · intro e
        have := ND _ _ lq.2.1 a6 e
        rw [this] at cq
        have := o5 j i (by omega) hi (ps_un P cq ⟨o4 i hi, hk, Or.inr rfl⟩)
        omega
    obtain ⟨e1, e2⟩ := r5 j ji
    constructor
    · intro y
      obtain ⟨g1, g2, g3, g4⟩ := kid (ge_10 y) _ (Or.inl rfl)
      obtain ⟨h1, h2, h3, h4⟩ := kid (ge_10 y) _ (Or.inr rfl)
      rw [g1, g2, g3, g4, h1, h2, h3, h4, e0.1, e0.2.1, e0.2.2.1, e0.2.2.2]
      exact e1 y
    · intro y
      obtain ⟨g1, g2, g3, g4⟩ := kid (ge_20 y) _ (Or.inl rfl)
      obtain ⟨h1, h2, h3, h4⟩ := kid (ge_20 y) _ (Or.inr rfl)
      rw [g1, g2, g3, g4, h1, h2, h3, h4, e0.1, e0.2.1, e0.2.2.1, e0.2.2.2]
      exact e2 y
theorem bf_R0 {c k i : Nat} {kd sh : Nat → Int32} {nd en o : Nat → Nat} {lw lh rx ry rw rh : Nat → Int32} {W0 H0 : Int32} (R : bf_R c k i kd sh nd en o lw lh rx ry rw rh W0 H0) (hk : kd (o i) = 0) : bf_R c k (i + 1) kd sh nd en o lw lh rx ry rw rh W0 H0 := by
  obtain ⟨r1, r2, r3, r4, r5⟩ := R
  refine ⟨r1, r2, r3, r4, ?_⟩
  intro j hj
  by_cases z : j = i
  · subst z
    exact ⟨fun y => absurd hk (ge_10 y), fun y => absurd hk (ge_20 y)⟩
  · exact r5 j (by omega)
theorem bf_E {c k : Nat} {kd sh : Nat → Int32} {nd en o : Nat → Nat} {lw lh rx ry rw rh : Nat → Int32} {W0 H0 : Int32} (O : bf_O c kd en k o) (R : bf_R c k k kd sh nd en o lw lh rx ry rw rh W0 H0) : la_E c kd sh nd en lw lh rx ry rw rh W0 H0 := by
  obtain ⟨r1, r2, r3, r4, r5⟩ := R
  refine ⟨r1, r2, r3, r4, ?_⟩
  intro i hi
  obtain ⟨j, hj, e⟩ := O.2.2.2.2.2.2 i hi
  rw [← e]
  exact r5 j hj
