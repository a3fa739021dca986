section
noncomputable def cc_b (P : Prop) : Nat := @ite Nat P (Classical.propDecidable P) 1 0
theorem cc_bt {P : Prop} (h : P) : cc_b P = 1 := by unfold cc_b; rw [if_pos h]
theorem cc_bf {P : Prop} (h : ¬ P) : cc_b P = 0 := by unfold cc_b; rw [if_neg h]
theorem cc_ble (P : Prop) : cc_b P ≤ 1 := by
  rcases Classical.em P with h | h
  · rw [cc_bt h]; omega
  · rw [cc_bf h]; omega
theorem cc_bmono {P Q : Prop} (h : P → Q) : cc_b P ≤ cc_b Q := by
  rcases Classical.em P with hp | hp
  · rw [cc_bt hp, cc_bt (h hp)]; omega
  · rw [cc_bf hp]; omega
noncomputable def cc_n (P : Nat → Prop) : Nat → Nat
  | 0 => 0
  | k + 1 => cc_n P k + cc_b (P k)
theorem cc_s (P : Nat → Prop) (k : Nat) : cc_n P (k + 1) = cc_n P k + cc_b (P k) := rfl
theorem cc_mono {P Q : Nat → Prop} : ∀ {N : Nat}, (∀ k, k < N → P k → Q k) → cc_n P N ≤ cc_n Q N
  | 0, _ => Nat.le_refl _
  | N + 1, h => by
    have a := cc_mono (P := P) (Q := Q) (N := N) (fun k hk => h k (by omega))
    have b := cc_bmono (h N (by omega))
    simp only [cc_n]; omega
theorem cc_lt {P Q : Nat → Prop} {a : Nat} (hp : ¬ P a) (hq : Q a) : ∀ {N : Nat}, (∀ k, k < N → P k → Q k) → a < N → cc_n P N < cc_n Q N
  | 0, _, h => by omega
  | N + 1, h, ha => by
    simp only [cc_n]
    rcases Nat.lt_or_ge a N with z | z
    · have x := cc_lt hp hq (N := N) (fun k hk => h k (by omega)) z
      have b := cc_bmono (h N (by omega))
      omega
    · have e : a = N := by omega
      subst e
      have x := cc_mono (P := P) (Q := Q) (N := a) (fun k hk => h k (by omega))
      rw [cc_bt hq, cc_bf hp]; omega
theorem cc_le (P : Nat → Prop) : ∀ N, cc_n P N ≤ N
  | 0 => Nat.le_refl _
  | N + 1 => by have := cc_le P N; have := cc_ble (P N); simp only [cc_n]; omega
theorem cc_eq {P Q : Nat → Prop} {N : Nat} (h : ∀ k, k < N → (P k ↔ Q k)) : cc_n P N = cc_n Q N :=
  Nat.le_antisymm (cc_mono fun k hk => (h k hk).mp) (cc_mono fun k hk => (h k hk).mpr)
theorem cc_add {P : Nat → Prop} {a : Nat} (hp : ¬ P a) : ∀ {N : Nat}, a < N → cc_n (fun k => P k ∨ k = a) N = cc_n P N + 1
  | 0, h => by omega
  | N + 1, h => by
    simp only [cc_n]
    rcases Nat.lt_or_ge a N with z | z
    · rw [cc_add hp z]
      have : cc_b (P N ∨ N = a) = cc_b (P N) := Nat.le_antisymm (cc_bmono fun q => q.elim id (fun e => by omega)) (cc_bmono Or.inl)
      omega
    · have e : a = N := by omega
      subst e
      rw [cc_eq (P := fun k => P k ∨ k = a) (Q := P) (fun k hk => ⟨fun q => q.elim id (fun e => by omega), Or.inl⟩), cc_bt (Or.inr rfl), cc_bf hp]
theorem cc_del {P : Nat → Prop} {a N : Nat} (hp : P a) (ha : a < N) : cc_n (fun k => P k ∧ k ≠ a) N + 1 = cc_n P N := by
  rw [← cc_add (P := fun k => P k ∧ k ≠ a) (a := a) (fun z => z.2 rfl) ha]
  apply cc_eq
  intro k _
  constructor
  · rintro (z | z)
    · exact z.1
    · rw [z]; exact hp
  · intro z
    rcases Nat.decEq k a with h | h
    · exact Or.inl ⟨z, h⟩
    · exact Or.inr h
theorem cc_all {P : Nat → Prop} : ∀ {N : Nat}, (∀ k, k < N → P k) → cc_n P N = N
  | 0, _ => rfl
  | N + 1, h => by rw [cc_s, cc_all (fun k hk => h k (by omega)), cc_bt (h N (by omega))]
theorem cc_full {P : Nat → Prop} : ∀ {N : Nat}, cc_n P N = N → ∀ k, k < N → P k
  | 0, _, k, hk => by omega
  | N + 1, h, k, hk => by
    rw [cc_s] at h
    have a := cc_le P N
    have b := cc_ble (P N)
    rcases Nat.lt_or_ge k N with z | z
    · exact cc_full (N := N) (by omega) k z
    · have e : k = N := by omega
      subst e
      rcases Classical.em (P k) with q | q
      · exact q
      · rw [cc_bf q] at h; omega
theorem cc_inj {p : Nat → Prop} {f : Nat → Nat} {M : Nat} : ∀ {n : Nat} {q : Nat → Prop}, (∀ i, i < n → p i → f i < M ∧ q (f i)) → (∀ i j, i < n → j < n → p i → p j → f i = f j → i = j) → cc_n p n ≤ cc_n q M
  | 0, _, _, _ => Nat.zero_le _
  | n + 1, q, h, inj => by
    rw [cc_s]
    rcases Classical.em (p n) with z | z
    · have hn := h n (by omega) z
      have ih := cc_inj (p := p) (f := f) (M := M) (n := n) (q := fun k => q k ∧ k ≠ f n)
        (fun i hi hp => ⟨(h i (by omega) hp).1, (h i (by omega) hp).2, fun e => by
          have := inj i n (by omega) (by omega) hp z e
          omega⟩)
        (fun i j hi hj hp hq e => inj i j (by omega) (by omega) hp hq e)
      have d := cc_del (P := q) hn.2 hn.1
      rw [cc_bt z]; omega
    · rw [cc_bf z]
      exact cc_inj (fun i hi hp => h i (by omega) hp) (fun i j hi hj hp hq e => inj i j (by omega) (by omega) hp hq e)
theorem cc_pig {f : Nat → Nat} {n M : Nat} (h : ∀ i, i < n → f i < M) (inj : ∀ i j, i < n → j < n → f i = f j → i = j) : n ≤ M := by
  have a := cc_inj (p := fun _ => True) (q := fun _ => True) (f := f) (M := M) (n := n) (fun i hi _ => ⟨h i hi, trivial⟩) (fun i j hi hj _ _ e => inj i j hi hj e)
  rw [cc_all (fun _ _ => trivial), cc_all (fun _ _ => trivial)] at a
  exact a
end
section
/-- a preorder list of c entries: kd its kinds (0 a leaf), en the end of the part that begins at a place -/
def ps_P (c : Nat) (kd : Nat → Int32) (en : Nat → Nat) : Prop :=
  0 < c ∧ en 0 = c ∧ ∀ i, i < c → i < en i ∧ en i ≤ c ∧ (kd i = 0 → en i = i + 1) ∧ (kd i ≠ 0 → i + 1 < c ∧ en (i + 1) < c ∧ en (en (i + 1)) = en i)
theorem ps_nd {c : Nat} {kd : Nat → Int32} {en : Nat → Nat} (P : ps_P c kd en) {i : Nat} (hi : i < c) (hk : kd i ≠ 0) : i + 1 < en (i + 1) ∧ en (i + 1) < en i ∧ en i ≤ c ∧ en (en (i + 1)) = en i ∧ i + 1 < c ∧ en (i + 1) < c := by
  obtain ⟨_, _, h⟩ := P
  obtain ⟨a1, a2, _, a4⟩ := h i hi
  obtain ⟨b1, b2, b3⟩ := a4 hk
  have h1 := (h (i + 1) b1).1
  have h2 := (h (en (i + 1)) b2).1
  exact ⟨h1, by omega, a2, b3, b1, b2⟩
theorem ps_lf {c : Nat} {kd : Nat → Int32} {en : Nat → Nat} (P : ps_P c kd en) {i : Nat} (hi : i < c) (hk : kd i = 0) : en i = i + 1 := (P.2.2 i hi).2.2.1 hk
theorem ps_up {c : Nat} {kd : Nat → Int32} {en : Nat → Nat} (P : ps_P c kd en) {Q : Nat → Prop} (hl : ∀ i, i < c → kd i = 0 → Q i) (hn : ∀ i, i < c → kd i ≠ 0 → Q (i + 1) → Q (en (i + 1)) → Q i) : ∀ i, i < c → Q i := by
  have key : ∀ m i, c - i ≤ m → i < c → Q i := by
    intro m
    induction m with
    | zero => intro i h hi; omega
    | succ m ih =>
      intro i h hi
      by_cases hk : kd i = 0
      · exact hl i hi hk
      · obtain ⟨a1, a2, a3, a4, a5, a6⟩ := ps_nd P hi hk
        exact hn i hi hk (ih (i + 1) (by omega) a5) (ih (en (i + 1)) (by omega) a6)
  exact fun i hi => key _ i (Nat.le_refl _) hi
theorem ps_nest {c : Nat} {kd : Nat → Int32} {en : Nat → Nat} (P : ps_P c kd en) : ∀ i, i < c → ∀ j, i ≤ j → j < en i → en j ≤ en i := by
  apply ps_up P (Q := fun i => ∀ j, i ≤ j → j < en i → en j ≤ en i)
  · intro i hi hk j h1 h2
    have e := ps_lf P hi hk
    have : j = i := by omega
    subst this
    exact Nat.le_refl _
  · intro i hi hk q1 q2 j h1 h2
    obtain ⟨a1, a2, a3, a4, a5, a6⟩ := ps_nd P hi hk
    by_cases z0 : j = i
    · subst z0; exact Nat.le_refl _
    · by_cases z1 : j < en (i + 1)
      · have := q1 j (by omega) z1
        omega
      · have := q2 j (by omega) (by omega)
        omega
theorem ps_down {c : Nat} {kd : Nat → Int32} {en : Nat → Nat} (P : ps_P c kd en) {Q : Nat → Prop} (h0 : Q 0) (hn : ∀ i, i < c → kd i ≠ 0 → Q i → Q (i + 1) ∧ Q (en (i + 1))) : ∀ j, j < c → Q j := by
  have key := ps_up P (Q := fun i => Q i → ∀ j, i ≤ j → j < en i → Q j)
    (fun i hi hk q j h1 h2 => by
      have e := ps_lf P hi hk
      have : j = i := by omega
      subst this
      exact q)
    (fun i hi hk q1 q2 q j h1 h2 => by
      obtain ⟨a1, a2, a3, a4, a5, a6⟩ := ps_nd P hi hk
      by_cases z0 : j = i
      · subst z0; exact q
      · by_cases z1 : j < en (i + 1)
        · exact q1 (hn i hi hk q).1 j (by omega) z1
        · exact q2 (hn i hi hk q).2 j (by omega) (by omega))
  intro j hj
  exact key 0 P.1 h0 j (Nat.zero_le _) (by rw [P.2.1]; exact hj)
/-- u is the place of a split, q the place of one of its two children -/
def ps_ch (kd : Nat → Int32) (en : Nat → Nat) (c u q : Nat) : Prop := u < c ∧ kd u ≠ 0 ∧ (q = u + 1 ∨ q = en (u + 1))
theorem ps_par {c : Nat} {kd : Nat → Int32} {en : Nat → Nat} (P : ps_P c kd en) : ∀ q, q < c → q = 0 ∨ ∃ u, ps_ch kd en c u q := by
  apply ps_down P (Q := fun q => q = 0 ∨ ∃ u, ps_ch kd en c u q)
  · exact Or.inl rfl
  · intro i hi hk _
    exact ⟨Or.inr ⟨i, hi, hk, Or.inl rfl⟩, Or.inr ⟨i, hi, hk, Or.inr rfl⟩⟩
theorem ps_ch_lt {c : Nat} {kd : Nat → Int32} {en : Nat → Nat} (P : ps_P c kd en) {u q : Nat} (h : ps_ch kd en c u q) : u < q ∧ q < c ∧ q < en u ∧ en q ≤ en u := by
  obtain ⟨hu, hk, h⟩ := h
  obtain ⟨a1, a2, a3, a4, a5, a6⟩ := ps_nd P hu hk
  rcases h with h | h <;> subst h <;> omega
theorem ps_un {c : Nat} {kd : Nat → Int32} {en : Nat → Nat} (P : ps_P c kd en) {u w q : Nat} (h : ps_ch kd en c u q) (h' : ps_ch kd en c w q) : u = w := by
  have key : ∀ u w, ps_ch kd en c u q → ps_ch kd en c w q → ¬ u < w := by
    intro u w h h' z
    have l' := ps_ch_lt P h'
    obtain ⟨hu, hk, h⟩ := h
    obtain ⟨hw, hk', h'⟩ := h'
    obtain ⟨a1, a2, a3, a4, a5, a6⟩ := ps_nd P hu hk
    obtain ⟨b1, b2, b3, b4, b5, b6⟩ := ps_nd P hw hk'
    rcases h with h | h
    · omega
    · have n := ps_nest P (u + 1) a5 w (by omega) (by omega)
      rcases h' with h' | h' <;> omega
  have a := key u w h h'
  have b := key w u h' h
  omega
/-- between a split and its child stands no place whose part reaches beyond the child's begin -/
theorem ps_btw {c : Nat} {kd : Nat → Int32} {en : Nat → Nat} (P : ps_P c kd en) {u q j : Nat} (h : ps_ch kd en c u q) (h1 : u < j) (h2 : j < q) : en j ≤ q := by
  obtain ⟨hu, hk, h⟩ := h
  obtain ⟨a1, a2, a3, a4, a5, a6⟩ := ps_nd P hu hk
  rcases h with h | h
  · omega
  · subst h
    exact ps_nest P (u + 1) a5 j (by omega) h2
/-- the leaves are one more than the splits -/
theorem ps_cnt {c : Nat} {kd : Nat → Int32} {en : Nat → Nat} (P : ps_P c kd en) : ∀ i, i < c → cc_n (fun j => kd j = 0) (en i) + cc_n (fun j => kd j ≠ 0) i = cc_n (fun j => kd j ≠ 0) (en i) + cc_n (fun j => kd j = 0) i + 1 := by
  apply ps_up P (Q := fun i => cc_n (fun j => kd j = 0) (en i) + cc_n (fun j => kd j ≠ 0) i = cc_n (fun j => kd j ≠ 0) (en i) + cc_n (fun j => kd j = 0) i + 1)
  · intro i hi hk
    show cc_n (fun j => kd j = 0) (en i) + cc_n (fun j => kd j ≠ 0) i = cc_n (fun j => kd j ≠ 0) (en i) + cc_n (fun j => kd j = 0) i + 1
    rw [ps_lf P hi hk, cc_s, cc_s, cc_bt hk, cc_bf (P := kd i ≠ 0) (fun z => z hk)]
    omega
  · intro i hi hk q1 q2
    obtain ⟨a1, a2, a3, a4, a5, a6⟩ := ps_nd P hi hk
    have q1 : cc_n (fun j => kd j = 0) (en (i + 1)) + cc_n (fun j => kd j ≠ 0) (i + 1) = cc_n (fun j => kd j ≠ 0) (en (i + 1)) + cc_n (fun j => kd j = 0) (i + 1) + 1 := q1
    have q2 : cc_n (fun j => kd j = 0) (en (en (i + 1))) + cc_n (fun j => kd j ≠ 0) (en (i + 1)) = cc_n (fun j => kd j ≠ 0) (en (en (i + 1))) + cc_n (fun j => kd j = 0) (en (i + 1)) + 1 := q2
    show cc_n (fun j => kd j = 0) (en i) + cc_n (fun j => kd j ≠ 0) i = cc_n (fun j => kd j ≠ 0) (en i) + cc_n (fun j => kd j = 0) i + 1
    rw [cc_s, cc_s, cc_bt hk, cc_bf (P := kd i = 0) hk] at q1
    rw [a4] at q2
    omega
theorem ps_cnt0 {c : Nat} {kd : Nat → Int32} {en : Nat → Nat} (P : ps_P c kd en) : cc_n (fun j => kd j = 0) c = cc_n (fun j => kd j ≠ 0) c + 1 := by
  have h := ps_cnt P 0 P.1
  rw [P.2.1] at h
  have e1 : cc_n (fun j => kd j ≠ 0) 0 = 0 := rfl
  have e2 : cc_n (fun j => kd j = 0) 0 = 0 := rfl
  omega
/-- a stack of s entries: the t-th says Q of the t-th place of the chain j, en j, en (en j) .. up to e -/
def ps_st (en : Nat → Nat) (Q : Nat → Nat → Prop) (e : Nat) : Nat → Nat → Prop
  | 0, j => j = e
  | s + 1, j => j < e ∧ Q s j ∧ ps_st en Q e s (en j)
theorem ps_st_mono {en : Nat → Nat} {Q R : Nat → Nat → Prop} {e : Nat} : ∀ {s j : Nat}, (∀ t j, t < s → Q t j → R t j) → ps_st en Q e s j → ps_st en R e s j
  | 0, _, _, h => h
  | _ + 1, _, m, h => ⟨h.1, m _ _ (by omega) h.2.1, ps_st_mono (fun t j ht => m t j (by omega)) h.2.2⟩
theorem ps_st_len {c : Nat} {kd : Nat → Int32} {en : Nat → Nat} (P : ps_P c kd en) {Q : Nat → Nat → Prop} {e : Nat} (he : e ≤ c) : ∀ {s j : Nat}, ps_st en Q e s j → j + s ≤ e
  | 0, j, h => by have h : j = e := h; omega
  | s + 1, j, h => by
    have h1 : j < e := h.1
    have h2 := ps_st_len P he h.2.2
    have h3 := (P.2.2 j (by omega)).1
    omega
theorem ps_st_pos {en : Nat → Nat} {Q : Nat → Nat → Prop} {e s j : Nat} (h : ps_st en Q e s j) (hj : j < e) : ∃ t, s = t + 1 := by
  cases s with
  | zero => have h : j = e := h; omega
  | succ t => exact ⟨t, rfl⟩
theorem ps_st_end {en : Nat → Nat} {Q : Nat → Nat → Prop} {e s : Nat} (h : ps_st en Q e s e) : s = 0 := by
  cases s with
  | zero => rfl
  | succ t => have h : e < e := h.1; omega
/-- the first leaf at j or behind it, found by going to the first child -/
theorem ps_fl {c : Nat} {kd : Nat → Int32} {en : Nat → Nat} (P : ps_P c kd en) : ∀ i, i < c → ∃ d, i + d < en i ∧ kd (i + d) = 0 ∧ ∀ t, t < d → kd (i + t) ≠ 0 := by
  apply ps_up P (Q := fun i => ∃ d, i + d < en i ∧ kd (i + d) = 0 ∧ ∀ t, t < d → kd (i + t) ≠ 0)
  · intro i hi hk
    exact ⟨0, (P.2.2 i hi).1, hk, fun t ht => by omega⟩
  · intro i hi hk q1 _
    obtain ⟨a1, a2, a3, a4, a5, a6⟩ := ps_nd P hi hk
    obtain ⟨d, h1, h2, h3⟩ := q1
    refine ⟨d + 1, by omega, ?_, ?_⟩
    · rw [show i + (d + 1) = i + 1 + d by omega]; exact h2
    · intro t ht
      cases t with
      | zero => exact hk
      | succ t =>
        rw [show i + (t + 1) = i + 1 + t by omega]
        exact h3 t (by omega)
end
section
def ge_G (c : Nat) (kd : Nat → Int32) (en : Nat → Nat) (X Y W H : Nat → Nat) : Prop := ∀ i, i < c → kd i ≠ 0 →
  (kd i = 1 ∧ 1 ≤ W (i + 1) ∧ 1 ≤ W (en (i + 1)) ∧ X (i + 1) = X i ∧ Y (i + 1) = Y i ∧ H (i + 1) = H i ∧ X (en (i + 1)) = X i + W (i + 1) + 1 ∧ Y (en (i + 1)) = Y i ∧ W (en (i + 1)) + W (i + 1) + 1 = W i ∧ H (en (i + 1)) = H i) ∨
  (kd i = 2 ∧ 1 ≤ H (i + 1) ∧ 1 ≤ H (en (i + 1)) ∧ X (i + 1) = X i ∧ Y (i + 1) = Y i ∧ W (i + 1) = W i ∧ Y (en (i + 1)) = Y i + H (i + 1) + 1 ∧ X (en (i + 1)) = X i ∧ H (en (i + 1)) + H (i + 1) + 1 = H i ∧ W (en (i + 1)) = W i)
def ge_in (X Y W H : Nat → Nat) (r q i : Nat) : Prop := X i ≤ q ∧ q < X i + W i ∧ Y i ≤ r ∧ r < Y i + H i
def ge_bd (kd : Nat → Int32) (X Y W H : Nat → Nat) (r q i : Nat) : Prop :=
  (kd i = 1 ∧ q = X i + W (i + 1) ∧ Y i ≤ r ∧ r < Y i + H i) ∨ (kd i = 2 ∧ r = Y i + H (i + 1) ∧ X i ≤ q ∧ q < X i + W i)
theorem ge_10 {x : Int32} (h : x = 1) : x ≠ 0 := by rw [h]; decide
theorem ge_20 {x : Int32} (h : x = 2) : x ≠ 0 := by rw [h]; decide
theorem ge_12 {x : Int32} (h : x = 1) (h' : x = 2) : False := by rw [h] at h'; exact absurd h' (by decide)
theorem ge_bd_n {kd : Nat → Int32} {X Y W H : Nat → Nat} {r q i : Nat} (h : ge_bd kd X Y W H r q i) : kd i ≠ 0 := by
  rcases h with h | h
  · exact ge_10 h.1
  · exact ge_20 h.1
theorem ge_bd_in {c : Nat} {kd : Nat → Int32} {en X Y W H : Nat → Nat} (G : ge_G c kd en X Y W H) {r q i : Nat} (hi : i < c) (h : ge_bd kd X Y W H r q i) : ge_in X Y W H r q i := by
  unfold ge_in
  rcases G i hi (ge_bd_n h) with g | g <;> rcases h with h | h
  · omega
  · exact (ge_12 g.1 h.1).elim
  · exact (ge_12 h.1 g.1).elim
  · omega
theorem ge_ch {c : Nat} {kd : Nat → Int32} {en X Y W H : Nat → Nat} (G : ge_G c kd en X Y W H) {r q i : Nat} (hi : i < c) (hk : kd i ≠ 0) :
    (ge_in X Y W H r q (i + 1) → ge_in X Y W H r q i ∧ ¬ ge_in X Y W H r q (en (i + 1)) ∧ ¬ ge_bd kd X Y W H r q i) ∧
    (ge_in X Y W H r q (en (i + 1)) → ge_in X Y W H r q i ∧ ¬ ge_bd kd X Y W H r q i) ∧
    (ge_in X Y W H r q i → ge_in X Y W H r q (i + 1) ∨ ge_in X Y W H r q (en (i + 1)) ∨ ge_bd kd X Y W H r q i) := by
  unfold ge_in ge_bd
  rcases G i hi hk with ⟨k1, g⟩ | ⟨k2, g⟩
  · have n2 : ¬ kd i = 2 := fun z => ge_12 k1 z
    refine ⟨fun h => ⟨by omega, by omega, ?_⟩, fun h => ⟨by omega, ?_⟩, fun h => ?_⟩
    · rintro (z | z)
      · omega
      · exact n2 z.1
    · rintro (z | z)
      · omega
      · exact n2 z.1
    · by_cases z1 : q < X i + W (i + 1)
      · exact Or.inl (by omega)
      · by_cases z2 : q = X i + W (i + 1)
        · exact Or.inr (Or.inr (Or.inl ⟨k1, by omega⟩))
        · exact Or.inr (Or.inl (by omega))
  · have n1 : ¬ kd i = 1 := fun z => ge_12 z k2
    refine ⟨fun h => ⟨by omega, by omega, ?_⟩, fun h => ⟨by omega, ?_⟩, fun h => ?_⟩
    · rintro (z | z)
      · exact n1 z.1
      · omega
    · rintro (z | z)
      · exact n1 z.1
      · omega
    · by_cases z1 : r < Y i + H (i + 1)
      · exact Or.inl (by omega)
      · by_cases z2 : r = Y i + H (i + 1)
        · exact Or.inr (Or.inr (Or.inr ⟨k2, by omega⟩))
        · exact Or.inr (Or.inl (by omega))
theorem ge_in_up {c : Nat} {kd : Nat → Int32} {en X Y W H : Nat → Nat} (P : ps_P c kd en) (G : ge_G c kd en X Y W H) {r q : Nat} : ∀ i, i < c → ∀ j, i ≤ j → j < en i → ge_in X Y W H r q j → ge_in X Y W H r q i := by
  apply ps_up P (Q := fun i => ∀ j, i ≤ j → j < en i → ge_in X Y W H r q j → ge_in X Y W H r q i)
  · intro i hi hk j h1 h2 h
    have e := ps_lf P hi hk
    have : j = i := by omega
    subst this
    exact h
  · intro i hi hk q1 q2 j h1 h2 h
    obtain ⟨a1, a2, a3, a4, a5, a6⟩ := ps_nd P hi hk
    have g := ge_ch G (r := r) (q := q) hi hk
    by_cases z0 : j = i
    · subst z0; exact h
    · by_cases z1 : j < en (i + 1)
      · exact (g.1 (q1 j (by omega) z1 h)).1
      · exact (g.2.1 (q2 j (by omega) (by omega) h)).1
theorem ge_cov {c : Nat} {kd : Nat → Int32} {en X Y W H : Nat → Nat} (P : ps_P c kd en) (G : ge_G c kd en X Y W H) {r q : Nat} : ∀ i, i < c → ge_in X Y W H r q i → ∃ j, i ≤ j ∧ j < en i ∧ ((kd j = 0 ∧ ge_in X Y W H r q j) ∨ ge_bd kd X Y W H r q j) := by
  apply ps_up P (Q := fun i => ge_in X Y W H r q i → ∃ j, i ≤ j ∧ j < en i ∧ ((kd j = 0 ∧ ge_in X Y W H r q j) ∨ ge_bd kd X Y W H r q j))
  · intro i hi hk h
    exact ⟨i, Nat.le_refl _, (P.2.2 i hi).1, Or.inl ⟨hk, h⟩⟩
  · intro i hi hk q1 q2 h
    obtain ⟨a1, a2, a3, a4, a5, a6⟩ := ps_nd P hi hk
    rcases (ge_ch G (r := r) (q := q) hi hk).2.2 h with z | z | z
    · obtain ⟨j, b1, b2, b3⟩ := q1 z
      exact ⟨j, by omega, by omega, b3⟩
    · obtain ⟨j, b1, b2, b3⟩ := q2 z
      exact ⟨j, by omega, by omega, b3⟩
    · exact ⟨i, Nat.le_refl _, (P.2.2 i hi).1, Or.inr z⟩
theorem ge_one {c : Nat} {kd : Nat → Int32} {en X Y W H : Nat → Nat} (P : ps_P c kd en) (G : ge_G c kd en X Y W H) {r q : Nat} : ∀ i, i < c → ∀ j k, i ≤ j → j < en i → i ≤ k → k < en i → ge_bd kd X Y W H r q j → ge_bd kd X Y W H r q k → j = k := by
  apply ps_up P (Q := fun i => ∀ j k, i ≤ j → j < en i → i ≤ k → k < en i → ge_bd kd X Y W H r q j → ge_bd kd X Y W H r q k → j = k)
  · intro i hi hk j k h1 h2 h3 h4 _ _
    have e := ps_lf P hi hk
    omega
  · intro i hi hk q1 q2 j k h1 h2 h3 h4 hj hk'
    obtain ⟨a1, a2, a3, a4, a5, a6⟩ := ps_nd P hi hk
    have g := ge_ch G (r := r) (q := q) hi hk
    have ij := ge_bd_in G (by omega) hj
    have ik := ge_bd_in G (by omega) hk'
    have up1 := fun z h h' => ge_in_up P G (r := r) (q := q) (i + 1) a5 z h h'
    have up2 := fun z h h' => ge_in_up P G (r := r) (q := q) (en (i + 1)) a6 z h h'
    by_cases j0 : j = i
    · by_cases k0 : k = i
      · omega
      · subst j0
        by_cases k1 : k < en (j + 1)
        · exact absurd hj (g.1 (up1 k (by omega) k1 ik)).2.2
        · exact absurd hj (g.2.1 (up2 k (by omega) (by omega) ik)).2
    · by_cases k0 : k = i
      · subst k0
        by_cases j1 : j < en (k + 1)
        · exact absurd hk' (g.1 (up1 j (by omega) j1 ij)).2.2
        · exact absurd hk' (g.2.1 (up2 j (by omega) (by omega) ij)).2
      · by_cases j1 : j < en (i + 1) <;> by_cases k1 : k < en (i + 1)
        · exact q1 j k (by omega) j1 (by omega) k1 hj hk'
        · exact absurd (up2 k (by omega) (by omega) ik) (g.1 (up1 j (by omega) j1 ij)).2.1
        · exact absurd (up2 j (by omega) (by omega) ij) (g.1 (up1 k (by omega) k1 ik)).2.1
        · exact q2 j k (by omega) (by omega) (by omega) (by omega) hj hk'
/-- the greater, the less: as both programs reckon them -/
def la_mx (a b : Int32) : Int32 := if a ≤ b then b else a
def la_mn (a b : Int32) : Int32 := if b ≤ a then b else a
def la_v (w s a b : Int32) : Int32 := la_mn (la_mx ((w - 1) * s / 100) a) (w - 1 - b)
theorem la_mxN {a b : Nat} (ha : a < 2 ^ 31) (hb : b < 2 ^ 31) : la_mx (nI a) (nI b) = nI (if a ≤ b then b else a) := by
  unfold la_mx
  by_cases h : a ≤ b
  · rw [if_pos h, if_pos ((nI_leI ha hb).mpr h)]
  · rw [if_neg h, if_neg (fun z => h ((nI_leI ha hb).mp z))]
theorem la_mnN {a b : Nat} (ha : a < 2 ^ 31) (hb : b < 2 ^ 31) : la_mn (nI a) (nI b) = nI (if b ≤ a then b else a) := by
  unfold la_mn
  by_cases h : b ≤ a
  · rw [if_pos h, if_pos ((nI_leI hb ha).mpr h)]
  · rw [if_neg h, if_neg (fun z => h ((nI_leI hb ha).mp z))]
theorem la_sub1 {a : Nat} (h : 1 ≤ a) : nI a - 1 = nI (a - 1) := pk_sub (a := a) (b := 1) h
theorem la_vN {w s a b : Nat} (hw : w ≤ 24) (hs : s ≤ 99) (hab : a + 1 + b ≤ w) : ∃ v, la_v (nI w) (nI s) (nI a) (nI b) = nI v ∧ a ≤ v ∧ v + 1 + b ≤ w := by
  have e : (w - 1) * s ≤ 23 * 99 := Nat.mul_le_mul (by omega) hs
  have e2 : (w - 1) * s / 100 ≤ (w - 1) * s := Nat.div_le_self _ _
  unfold la_v
  rw [la_sub1 (by omega), pk_mul, show (100 : Int32) = nI 100 from rfl, pk_div (by omega) (by omega) (by omega), pk_sub (by omega), la_mxN (by omega) (by omega)]
  generalize (w - 1) * s / 100 = t at *
  by_cases h : t ≤ a
  · rw [if_pos h, la_mnN (by omega) (by omega)]
    by_cases h2 : w - 1 - b ≤ a
    · rw [if_pos h2]; exact ⟨_, rfl, by omega, by omega⟩
    · rw [if_neg h2]; exact ⟨_, rfl, by omega, by omega⟩
  · rw [if_neg h, la_mnN (by omega) (by omega)]
    by_cases h2 : w - 1 - b ≤ t
    · rw [if_pos h2]; exact ⟨_, rfl, by omega, by omega⟩
    · rw [if_neg h2]; exact ⟨_, rfl, by omega, by omega⟩
/-- the least sizes at the nodes of the tree -/
def la_l (kd : Nat → Int32) (nd en : Nat → Nat) (lw lh : Nat → Int32) (i : Nat) : Prop :=
  (kd i = 0 → lw (nd i) = 1 ∧ lh (nd i) = 1) ∧
  (kd i = 1 → lw (nd i) = lw (nd (i + 1)) + 1 + lw (nd (en (i + 1))) ∧ lh (nd i) = la_mx (lh (nd (i + 1))) (lh (nd (en (i + 1))))) ∧
  (kd i = 2 → lw (nd i) = la_mx (lw (nd (i + 1))) (lw (nd (en (i + 1)))) ∧ lh (nd i) = lh (nd (i + 1)) + 1 + lh (nd (en (i + 1))))
def la_L (c : Nat) (kd : Nat → Int32) (nd en : Nat → Nat) (lw lh : Nat → Int32) : Prop := ∀ i, i < c → la_l kd nd en lw lh i
/-- the rectangles of the children of the node at place i -/
def la_e (kd sh : Nat → Int32) (nd en : Nat → Nat) (lw lh rx ry rw rh : Nat → Int32) (i : Nat) : Prop :=
  (kd i = 1 → rx (nd (i + 1)) = rx (nd i) ∧ ry (nd (i + 1)) = ry (nd i) ∧ rw (nd (i + 1)) = la_v (rw (nd i)) (sh i) (lw (nd (i + 1))) (lw (nd (en (i + 1)))) ∧ rh (nd (i + 1)) = rh (nd i) ∧
    rx (nd (en (i + 1))) = rx (nd i) + la_v (rw (nd i)) (sh i) (lw (nd (i + 1))) (lw (nd (en (i + 1)))) + 1 ∧ ry (nd (en (i + 1))) = ry (nd i) ∧ rw (nd (en (i + 1))) = rw (nd i) - la_v (rw (nd i)) (sh i) (lw (nd (i + 1))) (lw (nd (en (i + 1)))) - 1 ∧ rh (nd (en (i + 1))) = rh (nd i)) ∧
  (kd i = 2 → rx (nd (i + 1)) = rx (nd i) ∧ ry (nd (i + 1)) = ry (nd i) ∧ rw (nd (i + 1)) = rw (nd i) ∧ rh (nd (i + 1)) = la_v (rh (nd i)) (sh i) (lh (nd (i + 1))) (lh (nd (en (i + 1)))) ∧
    rx (nd (en (i + 1))) = rx (nd i) ∧ ry (nd (en (i + 1))) = ry (nd i) + la_v (rh (nd i)) (sh i) (lh (nd (i + 1))) (lh (nd (en (i + 1)))) + 1 ∧ rw (nd (en (i + 1))) = rw (nd i) ∧ rh (nd (en (i + 1))) = rh (nd i) - la_v (rh (nd i)) (sh i) (lh (nd (i + 1))) (lh (nd (en (i + 1)))) - 1)
def la_E (c : Nat) (kd sh : Nat → Int32) (nd en : Nat → Nat) (lw lh rx ry rw rh : Nat → Int32) (W0 H0 : Int32) : Prop :=
  rx (nd 0) = 0 ∧ ry (nd 0) = 0 ∧ rw (nd 0) = W0 ∧ rh (nd 0) = H0 ∧ ∀ i, i < c → la_e kd sh nd en lw lh rx ry rw rh i
/-- kinds are 0, 1, 2, and a split's share is 1 to 99 -/
def la_K (c : Nat) (kd sh : Nat → Int32) : Prop := ∀ i, i < c → kd i = 0 ∨ ((kd i = 1 ∨ kd i = 2) ∧ ∃ s, 1 ≤ s ∧ s ≤ 99 ∧ sh i = nI s)
theorem la_Ln {c : Nat} {kd sh : Nat → Int32} {nd en : Nat → Nat} {lw lh : Nat → Int32} (P : ps_P c kd en) (K : la_K c kd sh) (hc : c ≤ 15) (L : la_L c kd nd en lw lh) : ∀ i, i < c → ∃ a b, lw (nd i) = nI a ∧ lh (nd i) = nI b ∧ 1 ≤ a ∧ 1 ≤ b ∧ a + i ≤ en i ∧ b + i ≤ en i := by
  apply ps_up P (Q := fun i => ∃ a b, lw (nd i) = nI a ∧ lh (nd i) = nI b ∧ 1 ≤ a ∧ 1 ≤ b ∧ a + i ≤ en i ∧ b + i ≤ en i)
  · intro i hi hk
    have e := ps_lf P hi hk
    exact ⟨1, 1, ((L i hi).1 hk).1, ((L i hi).1 hk).2, by omega, by omega, by omega, by omega⟩
  · intro i hi hk q1 q2
    obtain ⟨a1, a2, a3, a4, a5, a6⟩ := ps_nd P hi hk
    obtain ⟨m1, n1, e1, f1, b1, b2, b3, b4⟩ := q1
    obtain ⟨m2, n2, e2, f2, d1, d2, d3, d4⟩ := q2
    obtain ⟨_, l1, l2⟩ := L i hi
    rw [e1, e2, f1, f2] at l1 l2
    rcases K i hi with z | ⟨z | z, _⟩
    · exact absurd z hk
    · obtain ⟨w, h⟩ := l1 z
      rw [nI_1, nI_add] at w
      rw [la_mxN (by omega) (by omega)] at h
      refine ⟨_, _, w, h, by omega, ?_, by omega, ?_⟩ <;> split <;> omega
    · obtain ⟨w, h⟩ := l2 z
      rw [nI_1, nI_add] at h
      rw [la_mxN (by omega) (by omega)] at w
      refine ⟨_, _, w, h, ?_, by omega, ?_, by omega⟩ <;> split <;> omega
theorem la_un {c : Nat} {kd sh : Nat → Int32} {nd en : Nat → Nat} {lw lh lw' lh' : Nat → Int32} (P : ps_P c kd en) (K : la_K c kd sh) (L : la_L c kd nd en lw lh) (L' : la_L c kd nd en lw' lh') : ∀ i, i < c → lw' (nd i) = lw (nd i) ∧ lh' (nd i) = lh (nd i) := by
  apply ps_up P (Q := fun i => lw' (nd i) = lw (nd i) ∧ lh' (nd i) = lh (nd i))
  · intro i hi hk
    exact ⟨((L' i hi).1 hk).1.trans ((L i hi).1 hk).1.symm, ((L' i hi).1 hk).2.trans ((L i hi).1 hk).2.symm⟩
  · intro i hi hk q1 q2
    obtain ⟨_, l1, l2⟩ := L i hi
    obtain ⟨_, m1, m2⟩ := L' i hi
    rw [q1.1, q1.2, q2.1, q2.2] at m1 m2
    rcases K i hi with z | ⟨z | z, _⟩
    · exact absurd z hk
    · exact ⟨(m1 z).1.trans (l1 z).1.symm, (m1 z).2.trans (l1 z).2.symm⟩
    · exact ⟨(m2 z).1.trans (l2 z).1.symm, (m2 z).2.trans (l2 z).2.symm⟩
/-- all in naturals: the picture of a layout -/
def la_N (c : Nat) (nd : Nat → Nat) (lw lh rx ry rw rh : Nat → Int32) (w0 h0 : Nat) (X Y W H mw mh : Nat → Nat) : Prop :=
  ∀ i, i < c → lw (nd i) = nI (mw i) ∧ lh (nd i) = nI (mh i) ∧ rx (nd i) = nI (X i) ∧ ry (nd i) = nI (Y i) ∧ rw (nd i) = nI (W i) ∧ rh (nd i) = nI (H i) ∧ 1 ≤ mw i ∧ 1 ≤ mh i ∧ mw i ≤ W i ∧ mh i ≤ H i ∧ X i + W i ≤ w0 ∧ Y i + H i ≤ h0
theorem la_nat {c : Nat} {kd sh : Nat → Int32} {nd en : Nat → Nat} {lw lh rx ry rw rh : Nat → Int32} {w0 h0 : Nat} (P : ps_P c kd en) (K : la_K c kd sh) (hc : c ≤ 15) (L : la_L c kd nd en lw lh)
    (E : la_E c kd sh nd en lw lh rx ry rw rh (nI w0) (nI h0)) (hw : w0 ≤ 24) (hh : h0 ≤ 12) (m0 : ∀ a, lw (nd 0) = nI a → a ≤ 24 → a ≤ w0) (n0 : ∀ a, lh (nd 0) = nI a → a ≤ 24 → a ≤ h0) :
    ∃ X Y W H mw mh, la_N c nd lw lh rx ry rw rh w0 h0 X Y W H mw mh ∧ ge_G c kd en X Y W H := by
  have Ln := la_Ln P K hc L
  obtain ⟨E1, E2, E3, E4, E5⟩ := E
  have D := ps_down P (Q := fun i => ∃ x y w h a b, lw (nd i) = nI a ∧ lh (nd i) = nI b ∧ rx (nd i) = nI x ∧ ry (nd i) = nI y ∧ rw (nd i) = nI w ∧ rh (nd i) = nI h ∧ 1 ≤ a ∧ 1 ≤ b ∧ a ≤ w ∧ b ≤ h ∧ x + w ≤ w0 ∧ y + h ≤ h0)
    (by
      obtain ⟨a, b, e, f, g1, g2, g3, g4⟩ := Ln 0 P.1
      have e0 := P.2.1
      exact ⟨0, 0, w0, h0, a, b, e, f, E1, E2, E3, E4, g1, g2, m0 a e (by omega), n0 b f (by omega), by omega, by omega⟩)
    (by
      intro i hi hk ⟨x, y, w, h, a, b, l1, l2, r1, r2, r3, r4, b1, b2, b3, b4, b5, b6⟩
      obtain ⟨a1, a2, a3, a4, a5, a6⟩ := ps_nd P hi hk
      obtain ⟨m1, n1, e1, f1, c1, c2, c3, c4⟩ := Ln (i + 1) a5
      obtain ⟨m2, n2, e2, f2, d1, d2, d3, d4⟩ := Ln (en (i + 1)) a6
      obtain ⟨_, k1, k2⟩ := L i hi
      obtain ⟨j1, j2⟩ := E5 i hi
      rw [e1, e2, f1, f2, l1, l2] at k1 k2
      rw [e1, e2, r1, r2, r3, r4] at j1
      rw [f1, f2, r1, r2, r3, r4] at j2
      rcases K i hi with z | ⟨z | z, s, _, hs, es⟩
      · exact absurd z hk
      · obtain ⟨w1, h1⟩ := k1 z
        rw [nI_1, nI_add, nI_eq (by omega) (by omega)] at w1
        rw [la_mxN (by omega) (by omega), nI_eq (by omega) (by split <;> omega)] at h1
        obtain ⟨v, ev, v1, v2⟩ := la_vN (w := w) (s := s) (a := m1) (b := m2) (by omega) hs (by omega)
        have j := j1 z
        rw [es, ev, pk_sub (by omega), la_sub1 (by omega), nI_add, nI_1] at j
        obtain ⟨t1, t2, t3, t4, t5, t6, t7, t8⟩ := j
        refine ⟨⟨x, y, v, h, m1, n1, e1, f1, t1, t2, t3, t4, c1, c2, v1, ?_, by omega, by omega⟩, ⟨x + v + 1, y, w - v - 1, h, m2, n2, e2, f2, t5, t6, t7, t8, d1, d2, by omega, ?_, by omega, by omega⟩⟩
        · split at h1 <;> omega
        · split at h1 <;> omega
      · obtain ⟨w1, h1⟩ := k2 z
        rw [nI_1, nI_add, nI_eq (by omega) (by omega)] at h1
        rw [la_mxN (by omega) (by omega), nI_eq (by omega) (by split <;> omega)] at w1
        obtain ⟨v, ev, v1, v2⟩ := la_vN (w := h) (s := s) (a := n1) (b := n2) (by omega) hs (by omega)
        have j := j2 z
        rw [es, ev, pk_sub (by omega), la_sub1 (by omega), nI_add, nI_1] at j
        obtain ⟨t1, t2, t3, t4, t5, t6, t7, t8⟩ := j
        refine ⟨⟨x, y, w, v, m1, n1, e1, f1, t1, t2, t3, t4, c1, c2, ?_, v1, by omega, by omega⟩, ⟨x, y + v + 1, w, h - v - 1, m2, n2, e2, f2, t5, t6, t7, t8, d1, d2, ?_, by omega, by omega, by omega⟩⟩
        · split at w1 <;> omega
        · split at w1 <;> omega)
  have N : la_N c nd lw lh rx ry rw rh w0 h0 (fun i => (rx (nd i)).toNatClampNeg) (fun i => (ry (nd i)).toNatClampNeg) (fun i => (rw (nd i)).toNatClampNeg) (fun i => (rh (nd i)).toNatClampNeg) (fun i => (lw (nd i)).toNatClampNeg) (fun i => (lh (nd i)).toNatClampNeg) := by
    intro i hi
    obtain ⟨x, y, w, h, a, b, l1, l2, r1, r2, r3, r4, b1, b2, b3, b4, b5, b6⟩ := D i hi
    dsimp only
    rw [l1, l2, r1, r2, r3, r4, nI_clamp (by omega), nI_clamp (by omega), nI_clamp (by omega), nI_clamp (by omega), nI_clamp (by omega), nI_clamp (by omega)]
    exact ⟨rfl, rfl, rfl, rfl, rfl, rfl, b1, b2, b3, b4, b5, b6⟩
  refine ⟨_, _, _, _, _, _, N, ?_⟩
  intro i hi hk
  obtain ⟨a1, a2, a3, a4, a5, a6⟩ := ps_nd P hi hk
  obtain ⟨x, y, w, h, a, b, l1, l2, r1, r2, r3, r4, b1, b2, b3, b4, b5, b6⟩ := D i hi
  obtain ⟨x', y', w', h', a', b', l1', l2', r1', r2', r3', r4', b1', b2', b3', b4', b5', b6'⟩ := D (i + 1) a5
  obtain ⟨x2, y2, w2, h2, a2', b2'', l12, l22, r12, r22, r32, r42, b12, b22, b32, b42, b52, b62⟩ := D (en (i + 1)) a6
  dsimp only
  obtain ⟨_, k1, k2⟩ := L i hi
  obtain ⟨j1, j2⟩ := E5 i hi
  rw [l1', l12, l1, l2', l22, l2] at k1 k2
  rw [l1', l12, r1, r2, r3, r4, r1', r2', r3', r4', r12, r22, r32, r42] at j1
  rw [l2', l22, r1, r2, r3, r4, r1', r2', r3', r4', r12, r22, r32, r42] at j2
  rw [r1, r2, r3, r4, r1', r2', r3', r4', r12, r22, r32, r42, nI_clamp (by omega), nI_clamp (by omega), nI_clamp (by omega), nI_clamp (by omega), nI_clamp (by omega), nI_clamp (by omega), nI_clamp (by omega), nI_clamp (by omega), nI_clamp (by omega), nI_clamp (by omega), nI_clamp (by omega), nI_clamp (by omega)]
  rcases K i hi with z | ⟨z | z, s, _, hs, es⟩
  · exact absurd z hk
  · left
    obtain ⟨w1, h1⟩ := k1 z
    rw [nI_1, nI_add, nI_eq (by omega) (by omega)] at w1
    obtain ⟨v, ev, v1, v2⟩ := la_vN (w := w) (s := s) (a := a') (b := a2') (by omega) hs (by omega)
    have j := j1 z
    rw [es, ev, pk_sub (by omega), la_sub1 (by omega), nI_add, nI_1, nI_eq (by omega) (by omega), nI_eq (by omega) (by omega), nI_eq (by omega) (by omega), nI_eq (by omega) (by omega), nI_eq (by omega) (by omega), nI_eq (by omega) (by omega), nI_eq (by omega) (by omega), nI_eq (by omega) (by omega)] at j
    exact ⟨z, by omega⟩
  · right
    obtain ⟨w1, h1⟩ := k2 z
    rw [nI_1, nI_add, nI_eq (by omega) (by omega)] at h1
    obtain ⟨v, ev, v1, v2⟩ := la_vN (w := h) (s := s) (a := b') (b := b2'') (by omega) hs (by omega)
    have j := j2 z
    rw [es, ev, pk_sub (by omega), la_sub1 (by omega), nI_add, nI_1, nI_eq (by omega) (by omega), nI_eq (by omega) (by omega), nI_eq (by omega) (by omega), nI_eq (by omega) (by omega), nI_eq (by omega) (by omega), nI_eq (by omega) (by omega), nI_eq (by omega) (by omega), nI_eq (by omega) (by omega)] at j
    exact ⟨z, by omega⟩
end
section
/-- the component's tree (parents, children, orientations, shares) and the reference's preorder list are one tree: nd the node at a place, po the place of a node -/
def tr_t (c : Nat) (nd en po : Nat → Nat) (pa fi se ori sh kd vl : Nat → Int32) (i : Nat) : Prop :=
  nd i < 15 ∧ po (nd i) = i ∧ ori (nd i) = kd i ∧ (kd i = 0 → nd i < 8 ∧ vl i = nI (nd i)) ∧
  (kd i ≠ 0 → 8 ≤ nd i ∧ sh (nd i) = vl i ∧ fi (nd i) = nI (nd (i + 1)) ∧ se (nd i) = nI (nd (en (i + 1))) ∧ pa (nd (i + 1)) = nI (nd i) ∧ pa (nd (en (i + 1))) = nI (nd i))
def tr_T (c : Nat) (nd en po : Nat → Nat) (root : Int32) (pa fi se ori sh kd vl : Nat → Int32) : Prop :=
  ps_P c kd en ∧ c ≤ 15 ∧ root = nI (nd 0) ∧ pa (nd 0) = -1 ∧ la_K c kd vl ∧ (∀ i, i < c → tr_t c nd en po pa fi se ori sh kd vl i) ∧ (∀ n, n < 15 → (∀ i, i < c → nd i ≠ n) → ori n = 0)
theorem tr_inj {c : Nat} {nd en po : Nat → Nat} {root : Int32} {pa fi se ori sh kd vl : Nat → Int32} (T : tr_T c nd en po root pa fi se ori sh kd vl) {i j : Nat} (hi : i < c) (hj : j < c) (h : nd i = nd j) : i = j := by
  have a := (T.2.2.2.2.2.1 i hi).2.1
  have b := (T.2.2.2.2.2.1 j hj).2.1
  rw [h, b] at a
  exact a.symm
theorem tr_m1 {n : Nat} (h : n < 2 ^ 31) : ¬ (nI n = -1) := by
  intro e
  have a := nI_pos h
  rw [e] at a
  exact a (by decide)
def sp_s (p e : Nat) : Nat := if e ≤ p then e else e + 2
def sp_f {α : Type} (p : Nat) (a b d : α) (g : Nat → α) (j : Nat) : α := if j < p then g j else if j = p then a else if j = p + 1 then b else if j = p + 2 then d else g (j - 2)
theorem sp_sl {p e : Nat} (h : e ≤ p) : sp_s p e = e := if_pos h
theorem sp_sg {p e : Nat} (h : p < e) : sp_s p e = e + 2 := if_neg (by omega)
theorem sp_fs {α : Type} {p : Nat} {a b d : α} {g : Nat → α} {j : Nat} (h : j ≠ p) : sp_f p a b d g (sp_s p j) = g j := by
  unfold sp_f
  by_cases z : j ≤ p
  · rw [sp_sl z, if_pos (by omega)]
  · rw [sp_sg (by omega), if_neg (by omega), if_neg (by omega), if_neg (by omega), if_neg (by omega)]
    exact congrArg g (by omega)
theorem sp_f0 {α : Type} {p : Nat} {a b d : α} {g : Nat → α} : sp_f p a b d g p = a := by
  unfold sp_f
  rw [if_neg (by omega), if_pos rfl]
theorem sp_f1 {α : Type} {p : Nat} {a b d : α} {g : Nat → α} : sp_f p a b d g (p + 1) = b := by
  unfold sp_f
  rw [if_neg (by omega), if_neg (by omega), if_pos rfl]
theorem sp_f2 {α : Type} {p : Nat} {a b d : α} {g : Nat → α} : sp_f p a b d g (p + 2) = d := by
  unfold sp_f
  rw [if_neg (by omega), if_neg (by omega), if_neg (by omega), if_pos rfl]
theorem sp_cov {p c j : Nat} (hp : p < c) (hj : j < c + 2) : j = p + 1 ∨ j = p + 2 ∨ ∃ i, i < c ∧ j = sp_s p i := by
  by_cases z : j ≤ p
  · exact Or.inr (Or.inr ⟨j, by omega, (sp_sl z).symm⟩)
  · by_cases z1 : j = p + 1
    · exact Or.inl z1
    · by_cases z2 : j = p + 2
      · exact Or.inr (Or.inl z2)
      · exact Or.inr (Or.inr ⟨j - 2, by omega, by rw [sp_sg (by omega)]; omega⟩)
theorem sp_lt {p a b : Nat} (h : a < b) : sp_s p a < sp_s p b := by
  unfold sp_s; split <;> split <;> omega
theorem sp_s1 {p j : Nat} (h : j ≠ p) : sp_s p (j + 1) = sp_s p j + 1 := by
  unfold sp_s; split <;> split <;> omega
theorem sp_en {c p : Nat} {kd : Nat → Int32} {en : Nat → Nat} (P : ps_P c kd en) (hp : p < c) (hk : kd p = 0) {j : Nat} : sp_f p (p + 3) (p + 2) (p + 3) (fun j => sp_s p (en j)) (sp_s p j) = sp_s p (en j) := by
  by_cases z : j = p
  · subst z
    rw [sp_sl (Nat.le_refl _), sp_f0, ps_lf P hp hk, sp_sg (by omega)]
  · exact sp_fs z
/-- the list with the leaf at p made a split over it and a new leaf -/
theorem sp_P {c p : Nat} {kd kd' : Nat → Int32} {en : Nat → Nat} {o : Int32} (P : ps_P c kd en) (hp : p < c) (hk : kd p = 0) (ho : o ≠ 0) (h' : ∀ j, j < c + 2 → kd' j = sp_f p o 0 0 kd j) : ps_P (c + 2) kd' (sp_f p (p + 3) (p + 2) (p + 3) (fun j => sp_s p (en j))) := by
  have EN := fun j => sp_en P hp hk (j := j)
  refine ⟨by omega, ?_, ?_⟩
  · have e := EN 0
    rw [sp_sl (Nat.zero_le _), P.2.1, sp_sg hp] at e
    exact e
  · intro i hi
    rw [h' i hi]
    rcases sp_cov hp hi with e | e | ⟨j, hj, e⟩
    · subst e
      rw [sp_f1, sp_f1]
      exact ⟨by omega, by omega, fun _ => rfl, fun z => absurd rfl z⟩
    · subst e
      rw [sp_f2, sp_f2]
      exact ⟨by omega, by omega, fun _ => rfl, fun z => absurd rfl z⟩
    · subst e
      rw [EN]
      obtain ⟨a1, a2, a3, a4⟩ := P.2.2 j hj
      have b1 := sp_lt (p := p) a1
      have b2 : sp_s p (en j) ≤ c + 2 := by unfold sp_s; split <;> omega
      refine ⟨b1, b2, ?_, ?_⟩
      · intro hz
        by_cases z : j = p
        · subst z
          rw [sp_sl (Nat.le_refl _), sp_f0] at hz
          exact absurd hz ho
        · rw [sp_fs z] at hz
          rw [a3 hz, sp_s1 z]
      · intro hz
        by_cases z : j = p
        · subst z
          rw [sp_sl (Nat.le_refl _), sp_f1, sp_f2, ps_lf P hp hk, sp_sg (by omega)]
          exact ⟨by omega, by omega, rfl⟩
        · rw [sp_fs z] at hz
          obtain ⟨d1, d2, d3⟩ := a4 hz
          rw [← sp_s1 z, EN, EN, d3]
          refine ⟨?_, ?_, rfl⟩
          · unfold sp_s; split <;> omega
          · unfold sp_s; split <;> omega
theorem tr_split {c p N g : Nat} {nd en po : Nat → Nat} {root root' o : Int32} {pa fi se ori sh kd vl pa' fi' se' ori' sh' kd' vl' : Nat → Int32} (T : tr_T c nd en po root pa fi se ori sh kd vl)
    (hc : c ≤ 13) (hp : p < c) (hk : kd p = 0) (ho : o = 1 ∨ o = 2) (hN : 8 ≤ N ∧ N < 15) (hN' : ∀ i, i < c → nd i ≠ N) (hg : g < 8) (hg' : ∀ i, i < c → nd i ≠ g)
    (hkd : ∀ j, j < c + 2 → kd' j = sp_f p o 0 0 kd j) (hvl : ∀ j, j < c + 2 → vl' j = sp_f p 50 (nI (nd p)) (nI g) vl j)
    (hroot : root' = if p = 0 then nI N else root)
    (hfi : ∀ j, j < c → kd j ≠ 0 → fi' (nd j) = if j + 1 = p then nI N else fi (nd j)) (hfiN : fi' N = nI (nd p))
    (hse : ∀ j, j < c → kd j ≠ 0 → se' (nd j) = if en (j + 1) = p then nI N else se (nd j)) (hseN : se' N = nI g)
    (hpa : ∀ j, j < c → j ≠ p → pa' (nd j) = pa (nd j)) (hpaN : pa' N = pa (nd p)) (hpaf : pa' (nd p) = nI N) (hpag : pa' g = nI N)
    (hori : ∀ n, n ≠ N → ori' n = ori n) (horiN : ori' N = o) (hsh : ∀ n, n ≠ N → sh' n = sh n) (hshN : sh' N = 50) :
    tr_T (c + 2) (sp_f p N (nd p) g nd) (sp_f p (p + 3) (p + 2) (p + 3) (fun j => sp_s p (en j))) (fun n => if n = N then p else if n = nd p then p + 1 else if n = g then p + 2 else sp_s p (po n)) root' pa' fi' se' ori' sh' kd' vl' := by
  obtain ⟨P, T2, T3, T4, T5, T6, T7⟩ := id T
  have EN := fun j => sp_en P hp hk (j := j)
  have ho0 : o ≠ 0 := by rcases ho with h | h <;> subst h <;> decide
  have NDq : ∀ q, sp_f p N (nd p) g nd (sp_s p q) = if q = p then N else nd q := by
    intro q
    by_cases z : q = p
    · subst z; rw [sp_sl (Nat.le_refl _), sp_f0, if_pos rfl]
    · rw [sp_fs z, if_neg z]
  have ipn : ∀ j, j < c → nd j = nd p → j = p := fun j hj e => tr_inj T hj hp e
  refine ⟨sp_P P hp hk ho0 hkd, by omega, ?_, ?_, ?_, ?_, ?_⟩
  · have e := NDq 0
    rw [sp_sl (Nat.zero_le _)] at e
    rw [hroot, e, T3]
    by_cases z : p = 0
    · rw [if_pos z, if_pos z.symm]
    · rw [if_neg z, if_neg (fun h => z h.symm)]
  · have e := NDq 0
    rw [sp_sl (Nat.zero_le _)] at e
    rw [e]
    by_cases z : 0 = p
    · subst z; rw [if_pos rfl, hpaN, T4]
    · rw [if_neg z, hpa 0 P.1 z, T4]
  · intro i hi
    rw [hkd i hi, hvl i hi]
    rcases sp_cov hp hi with e | e | ⟨j, hj, e⟩
    · subst e; rw [sp_f1]; exact Or.inl rfl
    · subst e; rw [sp_f2]; exact Or.inl rfl
    · subst e
      by_cases z : j = p
      · subst z
        rw [sp_sl (Nat.le_refl _), sp_f0, sp_f0]
        exact Or.inr ⟨ho, 50, by omega, by omega, rfl⟩
      · rw [sp_fs z, sp_fs z]; exact T5 j hj
  · intro i hi
    unfold tr_t
    try dsimp only
    rw [hkd i hi, hvl i hi]
    rcases sp_cov hp hi with e | e | ⟨j, hj, e⟩
    · subst e
      rw [sp_f1, sp_f1, sp_f1]
      have f8 := ((T6 p hp).2.2.2.1 hk).1
      have fN : nd p ≠ N := hN' p hp
      rw [if_neg fN, if_pos rfl, hori _ fN, (T6 p hp).2.2.1, hk]
      exact ⟨by omega, rfl, rfl, fun _ => ⟨f8, rfl⟩, fun z => absurd rfl z⟩
    · subst e
      rw [sp_f2, sp_f2, sp_f2]
      have gN : g ≠ N := by omega
      rw [if_neg gN, if_neg (fun h => hg' p hp h.symm), if_pos rfl, hori _ gN, T7 g (by omega) hg']
      exact ⟨by omega, rfl, rfl, fun _ => ⟨hg, rfl⟩, fun z => absurd rfl z⟩
    · subst e
      by_cases z : j = p
      · subst z
        rw [sp_sl (Nat.le_refl _), sp_f0, sp_f0, sp_f0, sp_f1, sp_f1, sp_f2, if_pos rfl, horiN, hshN, hfiN, hseN, hpaf, hpag]
        exact ⟨hN.2, rfl, rfl, fun h => absurd h ho0, fun _ => ⟨hN.1, rfl, rfl, rfl, rfl, rfl⟩⟩
      · rw [sp_fs z, sp_fs z, sp_fs z]
        obtain ⟨t1, t2, t3, t4, t5⟩ := T6 j hj
        have jN : nd j ≠ N := hN' j hj
        rw [if_neg jN, if_neg (fun h => z (ipn j hj h)), if_neg (hg' j hj), t2, hori _ jN, hsh _ jN]
        refine ⟨t1, rfl, t3, t4, ?_⟩
        intro hkj
        obtain ⟨u1, u2, u3, u4, u5, u6⟩ := t5 hkj
        obtain ⟨a1, a2, a3, a4, a5, a6⟩ := ps_nd P hj hkj
        have e1 : sp_f p (p + 3) (p + 2) (p + 3) (fun j => sp_s p (en j)) (sp_s p j + 1) = sp_s p (en (j + 1)) := by rw [← sp_s1 z]; exact EN _
        rw [e1, ← sp_s1 z, NDq, NDq, hfi j hj hkj, hse j hj hkj]
        refine ⟨u1, u2, ?_, ?_, ?_, ?_⟩
        · by_cases y : j + 1 = p
          · rw [if_pos y, if_pos y]
          · rw [if_neg y, if_neg y]; exact u3
        · by_cases y : en (j + 1) = p
          · rw [if_pos y, if_pos y]
          · rw [if_neg y, if_neg y]; exact u4
        · by_cases y : j + 1 = p
          · rw [if_pos y, hpaN, ← y]; exact u5
          · rw [if_neg y, hpa _ a5 y]; exact u5
        · by_cases y : en (j + 1) = p
          · rw [if_pos y, hpaN, ← y]; exact u6
          · rw [if_neg y, hpa _ a6 y]; exact u6
  · intro n hn h
    have nN : n ≠ N := by
      intro e
      have := h p (by omega)
      rw [sp_f0] at this
      exact this e.symm
    rw [hori n nN]
    apply T7 n hn
    intro i hi e
    by_cases z : i = p
    · subst z
      have := h (i + 1) (by omega)
      rw [sp_f1] at this
      exact this e
    · have := h (sp_s p i) (by unfold sp_s; split <;> omega)
      rw [sp_fs z] at this
      exact this e
end
section
def cl_d (P p q : Nat) : Nat := if q ≤ P then q else if q ≤ p then q - 1 else q - 2
def cl_r (P p j : Nat) : Nat := if j < P then j else if j + 1 < p then j + 1 else j + 2
theorem cl_rn {P p j : Nat} (h : P < p) : cl_r P p j ≠ P ∧ cl_r P p j ≠ p ∧ cl_r P p j ≤ j + 2 ∧ cl_d P p (cl_r P p j) = j := by
  unfold cl_r cl_d; (repeat' split) <;> omega
theorem cl_dr {P p q : Nat} (h : P < p) (h1 : q ≠ P) (h2 : q ≠ p) : cl_r P p (cl_d P p q) = q := by
  unfold cl_r cl_d; (repeat' split) <;> omega
/-- the split at u goes with its leaf at p, and the other child at s comes into its place -/
def cl_F (c : Nat) (kd : Nat → Int32) (en : Nat → Nat) (u p s : Nat) : Prop :=
  ps_P c kd en ∧ u < c ∧ kd u ≠ 0 ∧ kd p = 0 ∧ p < c ∧ s < c ∧ u < p ∧ ((p = u + 1 ∧ s = u + 2 ∧ en u = en s ∧ en s = en (u + 2) ∧ en (u + 1) = u + 2) ∨ (p = en (u + 1) ∧ s = u + 1 ∧ en u = p + 1 ∧ u + 1 < p)) ∧ u + 3 ≤ en u ∧ p < en u ∧ en u ≤ c
theorem cl_mk {c : Nat} {kd : Nat → Int32} {en : Nat → Nat} {u p s : Nat} (P : ps_P c kd en) (hk : kd p = 0) (h : ps_ch kd en c u p) (hs : s = if p = u + 1 then u + 2 else u + 1) : cl_F c kd en u p s := by
  obtain ⟨hu, hku, h⟩ := h
  obtain ⟨a1, a2, a3, a4, a5, a6⟩ := ps_nd P hu hku
  rcases h with h | h
  · subst h
    rw [if_pos rfl] at hs
    have e := ps_lf P a5 hk
    rw [e] at a1 a2 a4 a6
    subst hs
    exact ⟨P, hu, hku, hk, a5, a6, by omega, Or.inl ⟨rfl, rfl, a4.symm, rfl, e⟩, by omega, by omega, a3⟩
  · have e := ps_lf P a6 (by rw [← h]; exact hk)
    rw [if_neg (by omega)] at hs
    subst hs
    exact ⟨P, hu, hku, hk, by omega, a5, by omega, Or.inr ⟨h, rfl, by omega, by omega⟩, by omega, by omega, a3⟩
theorem cl_lt {c : Nat} {kd : Nat → Int32} {en : Nat → Nat} {u p s : Nat} (F : cl_F c kd en u p s) {t : Nat} (ht : t < c) (hp : t ≠ p) : cl_d u p t < c - 2 := by
  obtain ⟨P, f1, f2, f3, f4, f5, f6, f7, f8, f9, f10⟩ := F
  unfold cl_d; (repeat' split) <;> omega
theorem cl_r0 {c : Nat} {kd : Nat → Int32} {en : Nat → Nat} {u p s : Nat} (F : cl_F c kd en u p s) : cl_r u p u = s := by
  obtain ⟨P, f1, f2, f3, f4, f5, f6, f7, f8, f9, f10⟩ := F
  unfold cl_r
  rcases f7 with ⟨g1, g2, g3, g4, g5⟩ | ⟨g1, g2, g3, g4⟩
  · rw [if_neg (by omega), if_neg (by omega)]; omega
  · rw [if_neg (by omega), if_pos (by omega)]; omega
theorem cl_rt {c : Nat} {kd : Nat → Int32} {en : Nat → Nat} {u p s : Nat} (F : cl_F c kd en u p s) {t : Nat} (hp : t ≠ p) : cl_r u p (cl_d u p t) = if t = u then s else t := by
  by_cases z : t = u
  · subst z
    rw [if_pos rfl]
    have e : cl_d t p t = t := if_pos (Nat.le_refl _)
    rw [e]
    exact cl_r0 F
  · rw [if_neg z]
    exact cl_dr F.2.2.2.2.2.2.1 z hp
theorem cl_en {c : Nat} {kd : Nat → Int32} {en : Nat → Nat} {u p s : Nat} (F : cl_F c kd en u p s) {t : Nat} (hp : t ≠ p) : cl_d u p (en (cl_r u p (cl_d u p t))) = cl_d u p (en t) := by
  rw [cl_rt F hp]
  by_cases z : t = u
  · subst z
    rw [if_pos rfl]
    obtain ⟨P, f1, f2, f3, f4, f5, f6, f7, f8, f9, f10⟩ := F
    rcases f7 with ⟨g1, g2, g3, g4, g5⟩ | ⟨g1, g2, g3, g4⟩
    · rw [g3]
    · rw [g2, ← g1, g3]
      unfold cl_d
      rw [if_neg (by omega), if_pos (Nat.le_refl _), if_neg (by omega), if_neg (by omega)]
      omega
  · rw [if_neg z]
theorem cl_s1 {u p q : Nat} (h : u < p) (h1 : q ≠ u) (h2 : q ≠ p) : cl_d u p (q + 1) = cl_d u p q + 1 := by
  unfold cl_d; (repeat' split) <;> omega
theorem cl_par {c : Nat} {kd : Nat → Int32} {en : Nat → Nat} {u p s : Nat} (F : cl_F c kd en u p s) {q : Nat} (hq : q < c) (hk : kd q ≠ 0) (hu : q ≠ u) : q + 1 ≠ p ∧ en (q + 1) ≠ p := by
  obtain ⟨P, f1, f2, f3, f4, f5, f6, f7, f8, f9, f10⟩ := F
  have hc : ps_ch kd en c u p := ⟨f1, f2, by rcases f7 with g | g; exact Or.inl g.1; exact Or.inr g.1⟩
  exact ⟨fun e => hu (ps_un P ⟨hq, hk, Or.inl e.symm⟩ hc), fun e => hu (ps_un P ⟨hq, hk, Or.inr e.symm⟩ hc)⟩
theorem cl_P {c : Nat} {kd kd' : Nat → Int32} {en : Nat → Nat} {u p s : Nat} (F : cl_F c kd en u p s) (h' : ∀ j, j < c - 2 → kd' j = kd (cl_r u p j)) : ps_P (c - 2) kd' (fun j => cl_d u p (en (cl_r u p j))) := by
  have EN := fun t (h : t ≠ p) => cl_en F (t := t) h
  have LT := fun t (h : t < c) (h' : t ≠ p) => cl_lt F (t := t) h h'
  have PAR := fun q (h : q < c) h' h'' => cl_par F (q := q) h h' h''
  obtain ⟨P, f1, f2, f3, f4, f5, f6, f7, f8, f9, f10⟩ := id F
  refine ⟨by omega, ?_, ?_⟩
  · have e := EN 0 (by omega)
    have e0 : cl_d u p 0 = 0 := if_pos (Nat.zero_le _)
    rw [e0, P.2.1] at e
    show cl_d u p (en (cl_r u p 0)) = c - 2
    rw [e]
    unfold cl_d
    rw [if_neg (by omega), if_neg (by omega)]
  · intro j hj
    dsimp only
    rw [h' j hj]
    obtain ⟨r1, r2, r3, r4⟩ := cl_rn (P := u) (p := p) (j := j) f6
    have hq : cl_r u p j < c := by omega
    generalize hqe : cl_r u p j = q at r1 r2 r3 r4 hq ⊢
    obtain ⟨a1, a2, a3, a4⟩ := P.2.2 q hq
    have nu : q < u → u < en q → en u ≤ en q := fun h h' => ps_nest P q hq u (by omega) h'
    have n1 : u < q → q < p → en q ≤ p := by
      intro h h'
      rcases f7 with ⟨g1, g2, g3, g4, g5⟩ | ⟨g1, g2, g3, g4⟩
      · omega
      · have := ps_nest P (u + 1) (by omega) q (by omega) (by omega)
        omega
    refine ⟨?_, ?_, ?_, ?_⟩
    · rw [← r4]
      unfold cl_d; (repeat' split) <;> omega
    · unfold cl_d; (repeat' split) <;> omega
    · intro hz
      rw [a3 hz, cl_s1 f6 r1 r2, r4]
    · intro hz
      obtain ⟨d1, d2, d3⟩ := a4 hz
      obtain ⟨p1, p2⟩ := PAR q hq hz r1
      have e1 : j + 1 = cl_d u p (q + 1) := by rw [cl_s1 f6 r1 r2, r4]
      rw [e1, EN _ p1, EN _ p2, d3]
      exact ⟨LT _ d1 p1, LT _ d2 p2, rfl⟩
theorem tr_close {c u p s : Nat} {nd en po : Nat → Nat} {root root' : Int32} {pa fi se ori sh kd vl pa' fi' se' ori' kd' vl' : Nat → Int32} (T : tr_T c nd en po root pa fi se ori sh kd vl) (F : cl_F c kd en u p s)
    (hkd : ∀ j, j < c - 2 → kd' j = kd (cl_r u p j)) (hvl : ∀ j, j < c - 2 → vl' j = vl (cl_r u p j))
    (hroot : root' = if u = 0 then nI (nd s) else root)
    (hfi : ∀ j, j < c → j ≠ u → kd j ≠ 0 → fi' (nd j) = if j + 1 = u then nI (nd s) else fi (nd j))
    (hse : ∀ j, j < c → j ≠ u → kd j ≠ 0 → se' (nd j) = if en (j + 1) = u then nI (nd s) else se (nd j))
    (hpa : ∀ j, j < c → j ≠ s → pa' (nd j) = pa (nd j)) (hpas : pa' (nd s) = pa (nd u))
    (hori : ∀ n, n ≠ nd u → ori' n = ori n) (horiu : ori' (nd u) = 0) :
    tr_T (c - 2) (fun j => nd (cl_r u p j)) (fun j => cl_d u p (en (cl_r u p j))) (fun n => cl_d u p (po n)) root' pa' fi' se' ori' sh kd' vl' := by
  obtain ⟨P, T2, T3, T4, T5, T6, T7⟩ := id T
  have EN := fun t (h : t ≠ p) => cl_en F (t := t) h
  have RT := fun t (h : t ≠ p) => cl_rt F (t := t) h
  have PAR := fun q (h : q < c) h' h'' => cl_par F (q := q) h h' h''
  have NP := cl_P F hkd
  obtain ⟨_, f1, f2, f3, f4, f5, f6, f7, f8, f9, f10⟩ := id F
  have su : s ≠ u := by rcases f7 with g | g <;> omega
  have d0 : cl_d u p 0 = 0 := if_pos (Nat.zero_le _)
  have r0 : cl_r u p 0 = if 0 = u then s else 0 := by
    have := RT 0 (by omega)
    rw [d0] at this
    exact this
  refine ⟨NP, by omega, ?_, ?_, ?_, ?_, ?_⟩
  · dsimp only
    rw [hroot, r0, T3]
    by_cases z : u = 0
    · rw [if_pos z, if_pos z.symm]
    · rw [if_neg z, if_neg (fun h => z h.symm)]
  · dsimp only
    rw [r0]
    by_cases z : 0 = u
    · rw [if_pos z, hpas, ← z, T4]
    · rw [if_neg z, hpa 0 (by omega) (by rcases f7 with g | g <;> omega), T4]
  · intro i hi
    rw [hkd i hi, hvl i hi]
    have r := cl_rn (P := u) (p := p) (j := i) f6
    exact T5 _ (by omega)
  · intro j hj
    unfold tr_t
    dsimp only
    rw [hkd j hj, hvl j hj]
    obtain ⟨r1, r2, r3, r4⟩ := cl_rn (P := u) (p := p) (j := j) f6
    have hq : cl_r u p j < c := by omega
    generalize hqe : cl_r u p j = q at r1 r2 r3 r4 hq ⊢
    obtain ⟨t1, t2, t3, t4, t5⟩ := T6 q hq
    have qu : nd q ≠ nd u := fun h => r1 (tr_inj T hq f1 h)
    rw [t2, r4, hori _ qu]
    refine ⟨t1, rfl, t3, t4, ?_⟩
    intro hz
    obtain ⟨u1, u2, u3, u4, u5, u6⟩ := t5 hz
    obtain ⟨a1, a2, a3, a4, a5, a6⟩ := ps_nd P hq hz
    obtain ⟨p1, p2⟩ := PAR q hq hz r1
    have e1 : j + 1 = cl_d u p (q + 1) := by rw [cl_s1 f6 r1 r2, r4]
    rw [e1, EN _ p1, RT _ p1, RT _ p2, hfi q hq r1 hz, hse q hq r1 hz]
    have hsu : ps_ch kd en c u s := ⟨f1, f2, by
      rcases f7 with ⟨g1, g2, g3, g4, g5⟩ | ⟨g1, g2, g3, g4⟩
      · right; omega
      · left; exact g2⟩
    have s1 : q + 1 ≠ s := fun e => r1 (ps_un P ⟨hq, hz, Or.inl e.symm⟩ hsu)
    have s2 : en (q + 1) ≠ s := fun e => r1 (ps_un P ⟨hq, hz, Or.inr e.symm⟩ hsu)
    refine ⟨u1, u2, ?_, ?_, ?_, ?_⟩
    · by_cases y : q + 1 = u
      · rw [if_pos y, if_pos y]
      · rw [if_neg y, if_neg y]; exact u3
    · by_cases y : en (q + 1) = u
      · rw [if_pos y, if_pos y]
      · rw [if_neg y, if_neg y]; exact u4
    · by_cases y : q + 1 = u
      · rw [if_pos y, hpas, ← y]; exact u5
      · rw [if_neg y, hpa _ a5 s1]; exact u5
    · by_cases y : en (q + 1) = u
      · rw [if_pos y, hpas, ← y]; exact u6
      · rw [if_neg y, hpa _ a6 s2]; exact u6
  · intro n hn h
    by_cases z : n = nd u
    · rw [z]; exact horiu
    · rw [hori n z]
      by_cases y : n = nd p
      · rw [y, (T6 p f4).2.2.1, f3]
      · apply T7 n hn
        intro i hi e
        have iu : i ≠ u := fun k => z (by rw [← e, k])
        have ip : i ≠ p := fun k => y (by rw [← e, k])
        have g := h (cl_d u p i) (cl_lt F hi ip)
        dsimp only at g
        rw [RT _ ip, if_neg iu] at g
        exact g e
end
section
theorem la_Nm {c : Nat} {kd sh : Nat → Int32} {nd en : Nat → Nat} {lw lh rx ry rw rh : Nat → Int32} {w0 h0 : Nat} {X Y W H mw mh : Nat → Nat} (P : ps_P c kd en) (L : la_L c kd nd en lw lh) (hw : w0 ≤ 24) (hh : h0 ≤ 12) (N : la_N c nd lw lh rx ry rw rh w0 h0 X Y W H mw mh) {i : Nat} (hi : i < c) :
    (kd i = 1 → mw i = mw (i + 1) + 1 + mw (en (i + 1)) ∧ mh (i + 1) ≤ mh i ∧ mh (en (i + 1)) ≤ mh i ∧ (mh i = mh (i + 1) ∨ mh i = mh (en (i + 1)))) ∧
    (kd i = 2 → mh i = mh (i + 1) + 1 + mh (en (i + 1)) ∧ mw (i + 1) ≤ mw i ∧ mw (en (i + 1)) ≤ mw i ∧ (mw i = mw (i + 1) ∨ mw i = mw (en (i + 1)))) := by
  obtain ⟨_, l1, l2⟩ := L i hi
  obtain ⟨n1, n2, n3, n4, n5, n6, n7, n8, n9, n10, n11, n12⟩ := N i hi
  constructor
  · intro hk
    obtain ⟨a1, a2, a3, a4, a5, a6⟩ := ps_nd P hi (ge_10 hk)
    obtain ⟨p1, p2, p3, p4, p5, p6, p7, p8, p9, p10, p11, p12⟩ := N (i + 1) a5
    obtain ⟨q1, q2, q3, q4, q5, q6, q7, q8, q9, q10, q11, q12⟩ := N (en (i + 1)) a6
    obtain ⟨x, y⟩ := l1 hk
    rw [n1, p1, q1, nI_1, nI_add, nI_eq (by omega) (by omega)] at x
    rw [n2, p2, q2, la_mxN (by omega) (by omega), nI_eq (by omega) (by split <;> omega)] at y
    refine ⟨x, ?_⟩
    split at y <;> omega
  · intro hk
    obtain ⟨a1, a2, a3, a4, a5, a6⟩ := ps_nd P hi (ge_20 hk)
    obtain ⟨p1, p2, p3, p4, p5, p6, p7, p8, p9, p10, p11, p12⟩ := N (i + 1) a5
    obtain ⟨q1, q2, q3, q4, q5, q6, q7, q8, q9, q10, q11, q12⟩ := N (en (i + 1)) a6
    obtain ⟨x, y⟩ := l2 hk
    rw [n1, p1, q1, la_mxN (by omega) (by omega), nI_eq (by omega) (by split <;> omega)] at x
    rw [n2, p2, q2, nI_1, nI_add, nI_eq (by omega) (by omega)] at y
    refine ⟨y, ?_⟩
    split at x <;> omega
theorem sp_min {c p w0 h0 : Nat} {kd kd' sh : Nat → Int32} {nd nd' en : Nat → Nat} {o : Int32} {lw lh rx ry rw rh lw' lh' : Nat → Int32} {X Y W H mw mh : Nat → Nat} (P : ps_P c kd en) (K : la_K c kd sh) (hp : p < c) (hk : kd p = 0) (ho : o = 1 ∨ o = 2)
    (hw : w0 ≤ 24) (hh : h0 ≤ 12) (N : la_N c nd lw lh rx ry rw rh w0 h0 X Y W H mw mh) (G : ge_G c kd en X Y W H) (r1 : o = 1 → 3 ≤ W p) (r2 : o = 2 → 3 ≤ H p) (h' : ∀ j, j < c + 2 → kd' j = sp_f p o 0 0 kd j)
    (L : la_L (c + 2) kd' nd' (sp_f p (p + 3) (p + 2) (p + 3) (fun j => sp_s p (en j))) lw' lh') : ∃ a b, lw' (nd' 0) = nI a ∧ lh' (nd' 0) = nI b ∧ a ≤ w0 ∧ b ≤ h0 := by
  have EN := fun j => sp_en P hp hk (j := j)
  have U := ps_up P (Q := fun j => ∃ a b, lw' (nd' (sp_s p j)) = nI a ∧ lh' (nd' (sp_s p j)) = nI b ∧ 1 ≤ a ∧ 1 ≤ b ∧ a ≤ W j ∧ b ≤ H j)
    (by
      intro j hj hkj
      obtain ⟨n1, n2, n3, n4, n5, n6, n7, n8, n9, n10, n11, n12⟩ := N j hj
      have l := L (sp_s p j) (by unfold sp_s; split <;> omega)
      unfold la_l at l
      rw [h' (sp_s p j) (by unfold sp_s; split <;> omega)] at l
      by_cases z : j = p
      · subst z
        have m1 := (L (j + 1) (by omega)).1 (by rw [h' _ (by omega), sp_f1])
        have m2 := (L (j + 2) (by omega)).1 (by rw [h' _ (by omega), sp_f2])
        rw [sp_sl (Nat.le_refl _), sp_f0, sp_f1, m1.1, m1.2, m2.1, m2.2] at l
        rw [sp_sl (Nat.le_refl _)]
        rcases ho with e | e
        · obtain ⟨x, y⟩ := l.2.1 e
          have := r1 e
          exact ⟨3, 1, x.trans (by decide), y.trans (by decide), by omega, by omega, by omega, by omega⟩
        · obtain ⟨x, y⟩ := l.2.2 e
          have := r2 e
          exact ⟨1, 3, x.trans (by decide), y.trans (by decide), by omega, by omega, by omega, by omega⟩
      · rw [sp_fs z] at l
        obtain ⟨x, y⟩ := l.1 hkj
        exact ⟨1, 1, x, y, by omega, by omega, by omega, by omega⟩)
    (by
      intro j hj hkj q1 q2
      obtain ⟨a1, b1, e1, f1, g1, g2, g3, g4⟩ := q1
      obtain ⟨a2, b2, e2, f2, i1, i2, i3, i4⟩ := q2
      obtain ⟨s1, s2, s3, s4, s5, s6⟩ := ps_nd P hj hkj
      obtain ⟨n1, n2, n3, n4, n5, n6, n7, n8, n9, n10, n11, n12⟩ := N j hj
      have z : j ≠ p := fun e => hkj (by rw [e]; exact hk)
      have l := L (sp_s p j) (by unfold sp_s; split <;> omega)
      unfold la_l at l
      rw [h' (sp_s p j) (by unfold sp_s; split <;> omega), sp_fs z, ← sp_s1 z, EN, e1, e2, f1, f2] at l
      rcases G j hj hkj with ⟨k1, g⟩ | ⟨k1, g⟩
      · obtain ⟨x, y⟩ := l.2.1 k1
        rw [nI_1, nI_add] at x
        rw [la_mxN (by omega) (by omega)] at y
        refine ⟨_, _, x, y, by omega, ?_, by omega, ?_⟩ <;> split <;> omega
      · obtain ⟨x, y⟩ := l.2.2 k1
        rw [nI_1, nI_add] at y
        rw [la_mxN (by omega) (by omega)] at x
        refine ⟨_, _, x, y, ?_, by omega, ?_, by omega⟩ <;> split <;> omega)
  obtain ⟨a, b, e, f, _, _, g1, g2⟩ := U 0 P.1
  obtain ⟨n1, n2, n3, n4, n5, n6, n7, n8, n9, n10, n11, n12⟩ := N 0 P.1
  rw [sp_sl (Nat.zero_le _)] at e f
  exact ⟨a, b, e, f, by omega, by omega⟩
theorem cl_min {c u p s w0 h0 : Nat} {kd kd' sh : Nat → Int32} {nd nd' en : Nat → Nat} {lw lh rx ry rw rh lw' lh' : Nat → Int32} {X Y W H mw mh : Nat → Nat} (F : cl_F c kd en u p s) (K : la_K c kd sh)
    (hw : w0 ≤ 24) (hh : h0 ≤ 12) (L0 : la_L c kd nd en lw lh) (N : la_N c nd lw lh rx ry rw rh w0 h0 X Y W H mw mh) (h' : ∀ j, j < c - 2 → kd' j = kd (cl_r u p j))
    (L : la_L (c - 2) kd' nd' (fun j => cl_d u p (en (cl_r u p j))) lw' lh') : ∃ a b, lw' (nd' 0) = nI a ∧ lh' (nd' 0) = nI b ∧ a ≤ w0 ∧ b ≤ h0 := by
  have EN := fun t (h : t ≠ p) => cl_en F (t := t) h
  have RT := fun t (h : t ≠ p) => cl_rt F (t := t) h
  have LT := fun t (h : t < c) (h' : t ≠ p) => cl_lt F (t := t) h h'
  have PAR := fun q (h : q < c) h' h'' => cl_par F (q := q) h h' h''
  obtain ⟨P, f1, f2, f3, f4, f5, f6, f7, f8, f9, f10⟩ := id F
  have U := ps_up P (Q := fun q => q ≠ p → ∃ a b, lw' (nd' (cl_d u p q)) = nI a ∧ lh' (nd' (cl_d u p q)) = nI b ∧ 1 ≤ a ∧ 1 ≤ b ∧ a ≤ mw q ∧ b ≤ mh q)
    (by
      intro q hq hkq qp
      obtain ⟨n1, n2, n3, n4, n5, n6, n7, n8, n9, n10, n11, n12⟩ := N q hq
      have qu : q ≠ u := fun e => f2 (by rw [← e]; exact hkq)
      have l := (L _ (LT q hq qp)).1 (by rw [h' _ (LT q hq qp), RT q qp, if_neg qu]; exact hkq)
      exact ⟨1, 1, l.1, l.2, by omega, by omega, by omega, by omega⟩)
    (by
      intro q hq hkq q1 q2 qp
      obtain ⟨s1, s2, s3, s4, s5, s6⟩ := ps_nd P hq hkq
      obtain ⟨n1, n2, n3, n4, n5, n6, n7, n8, n9, n10, n11, n12⟩ := N q hq
      have M := la_Nm (sh := sh) P L0 hw hh N hq
      obtain ⟨y1, y2, y3, y4, y5, y6, y7, y8, y9, y10, y11, y12⟩ := N (q + 1) s5
      obtain ⟨z1, z2, z3, z4, z5, z6, z7, z8, z9, z10, z11, z12⟩ := N (en (q + 1)) s6
      have kk : kd q = 1 ∨ kd q = 2 := by
        rcases K q hq with h | h
        · exact absurd h hkq
        · exact h.1
      by_cases qu : q = u
      · subst qu
        have du : cl_d q p q = q := if_pos (Nat.le_refl _)
        rw [du]
        rcases f7 with ⟨g1, g2, g3, g4, g5⟩ | ⟨g1, g2, g3, g4⟩
        · have ds : cl_d q p (en (q + 1)) = q := by
            unfold cl_d
            rw [g5, if_neg (by omega), if_neg (by omega)]
            omega
          obtain ⟨a, b, e, f, i1, i2, i3, i4⟩ := q2 (by omega)
          rw [ds] at e f
          refine ⟨a, b, e, f, i1, i2, ?_, ?_⟩
          · rcases kk with k | k
            · have := M.1 k; omega
            · have := M.2 k; omega
          · rcases kk with k | k
            · have := M.1 k; omega
            · have := M.2 k; omega
        · have ds : cl_d q p (q + 1) = q := by
            unfold cl_d
            rw [if_neg (by omega), if_pos (by omega)]
            omega
          obtain ⟨a, b, e, f, i1, i2, i3, i4⟩ := q1 (by omega)
          rw [ds] at e f
          refine ⟨a, b, e, f, i1, i2, ?_, ?_⟩
          · rcases kk with k | k
            · have := M.1 k; omega
            · have := M.2 k; omega
          · rcases kk with k | k
            · have := M.1 k; omega
            · have := M.2 k; omega
      · obtain ⟨p1, p2⟩ := PAR q hq hkq qu
        obtain ⟨a1, b1, e1, g1, i1, i2, i3, i4⟩ := q1 p1
        obtain ⟨a2, b2, e2, g2, j1, j2, j3, j4⟩ := q2 p2
        have l := L _ (LT q hq qp)
        unfold la_l at l
        rw [h' _ (LT q hq qp), ← cl_s1 f6 qu qp] at l
        try dsimp only at l
        rw [EN _ p1, RT q qp, if_neg qu, e1, e2, g1, g2] at l
        rcases kk with k | k
        · have m := M.1 k
          obtain ⟨x, y⟩ := l.2.1 k
          rw [nI_1, nI_add] at x
          rw [la_mxN (by omega) (by omega)] at y
          refine ⟨_, _, x, y, by omega, ?_, by omega, ?_⟩ <;> split <;> omega
        · have m := M.2 k
          obtain ⟨x, y⟩ := l.2.2 k
          rw [nI_1, nI_add] at y
          rw [la_mxN (by omega) (by omega)] at x
          refine ⟨_, _, x, y, ?_, by omega, ?_, by omega⟩ <;> split <;> omega)
  obtain ⟨a, b, e, f, _, _, g1, g2⟩ := U 0 P.1 (by omega)
  obtain ⟨n1, n2, n3, n4, n5, n6, n7, n8, n9, n10, n11, n12⟩ := N 0 P.1
  have d0 : cl_d u p 0 = 0 := if_pos (Nat.zero_le _)
  rw [d0] at e f
  exact ⟨a, b, e, f, by omega, by omega⟩
end
section
/-- the nodes listed so far: o the place of the j-th listed, k how many, i how many have been looked at -/
def bf_I (c : Nat) (kd : Nat → Int32) (en : Nat → Nat) (i k : Nat) (o : Nat → Nat) : Prop :=
  i ≤ k ∧ 1 ≤ k ∧ k ≤ c ∧ o 0 = 0 ∧ (∀ j, j < k → o j < c) ∧ (∀ a b, a < k → b < k → o a = o b → a = b) ∧
  (∀ j, j < i → kd (o j) ≠ 0 → (∃ a, j < a ∧ a < k ∧ o a = o j + 1) ∧ (∃ b, j < b ∧ b < k ∧ o b = en (o j + 1))) ∧
  (∀ j, 0 < j → j < k → ∃ b, b < i ∧ ps_ch kd en c (o b) (o j))
theorem bf_0 {c : Nat} {kd : Nat → Int32} {en : Nat → Nat} (P : ps_P c kd en) : bf_I c kd en 0 1 (fun _ => 0) :=
  ⟨by omega, by omega, P.1, rfl, fun _ _ => P.1, fun a b _ _ _ => by omega, fun j h => by omega, fun j h h' => by omega⟩
theorem bf_leaf {c : Nat} {kd : Nat → Int32} {en : Nat → Nat} {i k : Nat} {o : Nat → Nat} (I : bf_I c kd en i k o) (h : i < k) (hk : kd (o i) = 0) : bf_I c kd en (i + 1) k o := by
  obtain ⟨i1, i2, i3, i4, i5, i6, i7, i8⟩ := I
  refine ⟨h, i2, i3, i4, i5, i6, ?_, ?_⟩
  · intro j hj hz
    by_cases z : j = i
    · subst z; exact absurd hk hz
    · exact i7 j (by omega) hz
  · intro j h1 h2
    obtain ⟨b, b1, b2⟩ := i8 j h1 h2
    exact ⟨b, by omega, b2⟩
def bf_o (o : Nat → Nat) (k a b : Nat) : Nat → Nat := fun j => if j = k then a else if j = k + 1 then b else o j
theorem bf_oo {o : Nat → Nat} {k a b j : Nat} (h : j < k) : bf_o o k a b j = o j := by
  unfold bf_o
  rw [if_neg (by omega), if_neg (by omega)]
theorem bf_o0 {o : Nat → Nat} {k a b : Nat} : bf_o o k a b k = a := if_pos rfl
theorem bf_o1 {o : Nat → Nat} {k a b : Nat} : bf_o o k a b (k + 1) = b := by
  unfold bf_o
  rw [if_neg (by omega), if_pos rfl]
theorem bf_node {c : Nat} {kd : Nat → Int32} {en : Nat → Nat} (P : ps_P c kd en) {i k : Nat} {o : Nat → Nat} (I : bf_I c kd en i k o) (h : i < k) (hk : kd (o i) ≠ 0) : bf_I c kd en (i + 1) (k + 2) (bf_o o k (o i + 1) (en (o i + 1))) := by
  obtain ⟨i1, i2, i3, i4, i5, i6, i7, i8⟩ := I
  obtain ⟨a1, a2, a3, a4, a5, a6⟩ := ps_nd P (i5 i h) hk
  have n1 : ∀ j, j < k → o j ≠ o i + 1 ∧ o j ≠ en (o i + 1) := by
    intro j hj
    by_cases z : j = 0
    · subst z; rw [i4]; omega
    · obtain ⟨b, b1, b2⟩ := i8 j (by omega) hj
      constructor
      · intro e
        have := i6 b i (by omega) h (ps_un P b2 ⟨i5 i h, hk, Or.inl e⟩)
        omega
      · intro e
        have := i6 b i (by omega) h (ps_un P b2 ⟨i5 i h, hk, Or.inr e⟩)
        omega
  have v : ∀ j, j < k + 2 → (j < k ∧ bf_o o k (o i + 1) (en (o i + 1)) j = o j) ∨ (j = k ∧ bf_o o k (o i + 1) (en (o i + 1)) j = o i + 1) ∨ (j = k + 1 ∧ bf_o o k (o i + 1) (en (o i + 1)) j = en (o i + 1)) := by
    intro j hj
    by_cases z : j < k
    · exact Or.inl ⟨z, bf_oo z⟩
    · by_cases z2 : j = k
      · subst z2; exact Or.inr (Or.inl ⟨rfl, bf_o0⟩)
      · have e : j = k + 1 := by omega
        subst e; exact Or.inr (Or.inr ⟨rfl, bf_o1⟩)
  have inj : ∀ a b, a < k + 2 → b < k + 2 → bf_o o k (o i + 1) (en (o i + 1)) a = bf_o o k (o i + 1) (en (o i + 1)) b → a = b := by
    intro a b ha hb e
    rcases v a ha with ⟨x, ea⟩ | ⟨x, ea⟩ | ⟨x, ea⟩ <;> rcases v b hb with ⟨y, eb⟩ | ⟨y, eb⟩ | ⟨y, eb⟩ <;> rw [ea, eb] at e
    · exact i6 a b x y e
    · exact absurd e (n1 a x).1
    · exact absurd e (n1 a x).2
    · exact absurd e.symm (n1 b y).1
    · omega
    · omega
    · exact absurd e.symm (n1 b y).2
    · omega
    · omega
  have lt : ∀ j, j < k + 2 → bf_o o k (o i + 1) (en (o i + 1)) j < c := by
    intro j hj
    rcases v j hj with ⟨x, ea⟩ | ⟨x, ea⟩ | ⟨x, ea⟩ <;> rw [ea]
    · exact i5 j x
    · exact a5
    · exact a6
  refine ⟨by omega, by omega, cc_pig lt inj, by rw [bf_oo (by omega)]; exact i4, lt, inj, ?_, ?_⟩
  · intro j hj hz
    rw [bf_oo (by omega)] at hz ⊢
    by_cases z : j = i
    · subst z
      exact ⟨⟨k, by omega, by omega, bf_o0⟩, ⟨k + 1, by omega, by omega, bf_o1⟩⟩
    · obtain ⟨⟨a, b1, b2, b3⟩, ⟨b, d1, d2, d3⟩⟩ := i7 j (by omega) hz
      exact ⟨⟨a, b1, by omega, by rw [bf_oo b2]; exact b3⟩, ⟨b, d1, by omega, by rw [bf_oo d2]; exact d3⟩⟩
  · intro j h1 h2
    rcases v j h2 with ⟨x, ea⟩ | ⟨x, ea⟩ | ⟨x, ea⟩ <;> rw [ea]
    · obtain ⟨b, b1, b2⟩ := i8 j h1 x
      exact ⟨b, by omega, by rw [bf_oo (by omega)]; exact b2⟩
    · exact ⟨i, by omega, by rw [bf_oo h]; exact ⟨i5 i h, hk, Or.inl rfl⟩⟩
    · exact ⟨i, by omega, by rw [bf_oo h]; exact ⟨i5 i h, hk, Or.inr rfl⟩⟩
/-- all are listed, each ahead of its children -/
def bf_O (c : Nat) (kd : Nat → Int32) (en : Nat → Nat) (k : Nat) (o : Nat → Nat) : Prop :=
  1 ≤ k ∧ k ≤ c ∧ o 0 = 0 ∧ (∀ j, j < k → o j < c) ∧ (∀ a b, a < k → b < k → o a = o b → a = b) ∧
  (∀ j, j < k → kd (o j) ≠ 0 → (∃ a, j < a ∧ a < k ∧ o a = o j + 1) ∧ (∃ b, j < b ∧ b < k ∧ o b = en (o j + 1))) ∧ (∀ q, q < c → ∃ j, j < k ∧ o j = q)
theorem bf_done {c : Nat} {kd : Nat → Int32} {en : Nat → Nat} (P : ps_P c kd en) {k : Nat} {o : Nat → Nat} (I : bf_I c kd en k k o) : bf_O c kd en k o := by
  obtain ⟨i1, i2, i3, i4, i5, i6, i7, i8⟩ := I
  refine ⟨i2, i3, i4, i5, i6, i7, ?_⟩
  apply ps_down P (Q := fun q => ∃ j, j < k ∧ o j = q)
  · exact ⟨0, by omega, i4⟩
  · intro q hq hk ⟨j, hj, e⟩
    subst e
    obtain ⟨⟨a, b1, b2, b3⟩, ⟨b, d1, d2, d3⟩⟩ := i7 j hj hk
    exact ⟨⟨a, b2, b3⟩, ⟨b, d2, d3⟩⟩
theorem la_l_upd {kd : Nat → Int32} {nd en : Nat → Nat} {lw lh : Nat → Int32} {i n : Nat} {x y : Int32} (h : la_l kd nd en lw lh i) (h0 : nd i ≠ n) (h1 : kd i ≠ 0 → nd (i + 1) ≠ n ∧ nd (en (i + 1)) ≠ n) : la_l kd nd en (upd lw n x) (upd lh n y) i := by
  obtain ⟨a, b, d⟩ := h
  refine ⟨fun z => ?_, fun z => ?_, fun z => ?_⟩
  · rw [pk_un h0, pk_un h0]; exact a z
  · obtain ⟨q1, q2⟩ := h1 (ge_10 z)
    rw [pk_un h0, pk_un h0, pk_un q1, pk_un q1, pk_un q2, pk_un q2]; exact b z
  · obtain ⟨q1, q2⟩ := h1 (ge_20 z)
    rw [pk_un h0, pk_un h0, pk_un q1, pk_un q1, pk_un q2, pk_un q2]; exact d z
theorem bf_ms {c k i : Nat} {kd : Nat → Int32} {nd en o : Nat → Nat} {lw lh : Nat → Int32} {x y : Int32} (P : ps_P c kd en) (ND : ∀ a b, a < c → b < c → nd a = nd b → a = b) (O : bf_O c kd en k o) (hi : i < k)
    (h : ∀ j, i < j → j < k → la_l kd nd en lw lh (o j)) (h0 : kd (o i) = 0 → x = 1 ∧ y = 1)
    (h1 : kd (o i) = 1 → x = lw (nd (o i + 1)) + 1 + lw (nd (en (o i + 1))) ∧ y = la_mx (lh (nd (o i + 1))) (lh (nd (en (o i + 1)))))
    (h2 : kd (o i) = 2 → x = la_mx (lw (nd (o i + 1))) (lw (nd (en (o i + 1)))) ∧ y = lh (nd (o i + 1)) + 1 + lh (nd (en (o i + 1)))) :
    ∀ j, i ≤ j → j < k → la_l kd nd en (upd lw (nd (o i)) x) (upd lh (nd (o i)) y) (o j) := by
  obtain ⟨o1, o2, o3, o4, o5, o6, o7⟩ := O
  intro j hj hk
  have ne : ∀ a, i < a → a < k → nd (o a) ≠ nd (o i) := fun a h1 h2 e => by
    have := o5 a i h2 hi (ND _ _ (o4 a h2) (o4 i hi) e)
    omega
  have kids : kd (o j) ≠ 0 → nd (o j + 1) ≠ nd (o i) ∧ nd (en (o j + 1)) ≠ nd (o i) := by
    intro z
    obtain ⟨⟨a, b1, b2, b3⟩, ⟨b, d1, d2, d3⟩⟩ := o6 j hk z
    rw [← d3, ← b3]
    exact ⟨ne a (by omega) b2, ne b (by omega) d2⟩
  by_cases z : j = i
  · subst z
    refine ⟨fun z => ?_, fun z => ?_, fun z => ?_⟩
    · rw [pk_us, pk_us]; exact h0 z
    · obtain ⟨q1, q2⟩ := kids (ge_10 z)
      rw [pk_us, pk_us, pk_un q1, pk_un q1, pk_un q2, pk_un q2]; exact h1 z
    · obtain ⟨q1, q2⟩ := kids (ge_20 z)
      rw [pk_us, pk_us, pk_un q1, pk_un q1, pk_un q2, pk_un q2]; exact h2 z
  · exact la_l_upd (h j (by omega) hk) (ne j (by omega) hk) kids
theorem bf_all {c k : Nat} {kd : Nat → Int32} {nd en o : Nat → Nat} {lw lh : Nat → Int32} (O : bf_O c kd en k o) (h : ∀ j, j < k → la_l kd nd en lw lh (o j)) : la_L c kd nd en lw lh := by
  intro i hi
  obtain ⟨j, hj, e⟩ := O.2.2.2.2.2.2 i hi
  rw [← e]
  exact h j hj
/-- the rectangles placed so far, those of the children of the first i listed nodes -/
def bf_R (c k i : Nat) (kd sh : Nat → Int32) (nd en o : Nat → Nat) (lw lh rx ry rw rh : Nat → Int32) (W0 H0 : Int32) : Prop :=
  rx (nd 0) = 0 ∧ ry (nd 0) = 0 ∧ rw (nd 0) = W0 ∧ rh (nd 0) = H0 ∧ ∀ j, j < i → la_e kd sh nd en lw lh rx ry rw rh (o j)
theorem bf_R1 {c k i : Nat} {kd sh : Nat → Int32} {nd en o : Nat → Nat} {lw lh rx ry rw rh rx' ry' rw' rh' : Nat → Int32} {W0 H0 : Int32} (P : ps_P c kd en) (ND : ∀ a b, a < c → b < c → nd a = nd b → a = b) (O : bf_O c kd en k o) (hi : i < k)
    (R : bf_R c k i kd sh nd en o lw lh rx ry rw rh W0 H0) (hk : kd (o i) ≠ 0)
    (ex : ∀ n, n ≠ nd (o i + 1) → n ≠ nd (en (o i + 1)) → rx' n = rx n ∧ ry' n = ry n ∧ rw' n = rw n ∧ rh' n = rh n)
    (new : la_e kd sh nd en lw lh rx' ry' rw' rh' (o i)) : bf_R c k (i + 1) kd sh nd en o lw lh rx' ry' rw' rh' W0 H0 := by
  obtain ⟨o1, o2, o3, o4, o5, o6, o7⟩ := O
  obtain ⟨r1, r2, r3, r4, r5⟩ := R
  obtain ⟨a1, a2, a3, a4, a5, a6⟩ := ps_nd P (o4 i hi) hk
  obtain ⟨⟨a, b1, b2, b3⟩, ⟨b, d1, d2, d3⟩⟩ := o6 i hi hk
  have n0 := ex (nd 0) (fun e => by have := ND _ _ P.1 a5 e; omega) (fun e => by have := ND _ _ P.1 a6 e; omega)
  refine ⟨n0.1.trans r1, n0.2.1.trans r2, n0.2.2.1.trans r3, n0.2.2.2.trans r4, ?_⟩
  intro j hj
  by_cases z : j = i
  · subst z; exact new
  · have ji : j < i := by omega
    have e0 := ex (nd (o j)) (fun e => by have := o5 j a (by omega) b2 ((ND _ _ (o4 j (by omega)) a5 e).trans b3.symm); omega) (fun e => by have := o5 j b (by omega) d2 ((ND _ _ (o4 j (by omega)) a6 e).trans d3.symm); omega)
    have kid : kd (o j) ≠ 0 → ∀ q, (q = o j + 1 ∨ q = en (o j + 1)) → rx' (nd q) = rx (nd q) ∧ ry' (nd q) = ry (nd q) ∧ rw' (nd q) = rw (nd q) ∧ rh' (nd q) = rh (nd q) := by
      intro y q hq
      have cq : ps_ch kd en c (o j) q := ⟨o4 j (by omega), y, hq⟩
      have lq := ps_ch_lt P cq
      apply ex
      · intro e
        have := ND _ _ lq.2.1 a5 e
        rw [this] at cq
        have := o5 j i (by omega) hi (ps_un P cq ⟨o4 i hi, hk, Or.inl rfl⟩)
        omega
      · intro e
        have := ND _ _ lq.2.1 a6 e
        rw [this] at cq
        have := o5 j i (by omega) hi (ps_un P cq ⟨o4 i hi, hk, Or.inr rfl⟩)
        omega
    obtain ⟨e1, e2⟩ := r5 j ji
    constructor
    · intro y
      obtain ⟨g1, g2, g3, g4⟩ := kid (ge_10 y) _ (Or.inl rfl)
      obtain ⟨h1, h2, h3, h4⟩ := kid (ge_10 y) _ (Or.inr rfl)
      rw [g1, g2, g3, g4, h1, h2, h3, h4, e0.1, e0.2.1, e0.2.2.1, e0.2.2.2]
      exact e1 y
    · intro y
      obtain ⟨g1, g2, g3, g4⟩ := kid (ge_20 y) _ (Or.inl rfl)
      obtain ⟨h1, h2, h3, h4⟩ := kid (ge_20 y) _ (Or.inr rfl)
      rw [g1, g2, g3, g4, h1, h2, h3, h4, e0.1, e0.2.1, e0.2.2.1, e0.2.2.2]
      exact e2 y
theorem bf_R0 {c k i : Nat} {kd sh : Nat → Int32} {nd en o : Nat → Nat} {lw lh rx ry rw rh : Nat → Int32} {W0 H0 : Int32} (R : bf_R c k i kd sh nd en o lw lh rx ry rw rh W0 H0) (hk : kd (o i) = 0) : bf_R c k (i + 1) kd sh nd en o lw lh rx ry rw rh W0 H0 := by
  obtain ⟨r1, r2, r3, r4, r5⟩ := R
  refine ⟨r1, r2, r3, r4, ?_⟩
  intro j hj
  by_cases z : j = i
  · subst z
    exact ⟨fun y => absurd hk (ge_10 y), fun y => absurd hk (ge_20 y)⟩
  · exact r5 j (by omega)
theorem bf_E {c k : Nat} {kd sh : Nat → Int32} {nd en o : Nat → Nat} {lw lh rx ry rw rh : Nat → Int32} {W0 H0 : Int32} (O : bf_O c kd en k o) (R : bf_R c k k kd sh nd en o lw lh rx ry rw rh W0 H0) : la_E c kd sh nd en lw lh rx ry rw rh W0 H0 := by
  obtain ⟨r1, r2, r3, r4, r5⟩ := R
  refine ⟨r1, r2, r3, r4, ?_⟩
  intro i hi
  obtain ⟨j, hj, e⟩ := O.2.2.2.2.2.2 i hi
  rw [← e]
  exact r5 j hj
end
section
theorem cc_two (kd : Nat → Int32) : ∀ n, cc_n (fun j => kd j = 0) n + cc_n (fun j => kd j ≠ 0) n = n
  | 0 => rfl
  | n + 1 => by
    have h := cc_two kd n
    rw [cc_s, cc_s]
    by_cases z : kd n = 0
    · rw [cc_bt z, cc_bf (P := kd n ≠ 0) (fun y => y z)]; omega
    · rw [cc_bf (P := kd n = 0) z, cc_bt (P := kd n ≠ 0) z]; omega
/-- the flags say which panes are in the tree -/
def lv_R (c : Nat) (nd : Nat → Nat) (lv : Nat → Int32) : Prop := ∀ g, g < 8 → (lv g = 0 ∨ lv g = 1) ∧ (lv g ≠ 0 ↔ ∃ i, i < c ∧ nd i = g)
theorem lv_cnt {c : Nat} {nd en po : Nat → Nat} {root : Int32} {pa fi se ori sh kd vl lv : Nat → Int32} (T : tr_T c nd en po root pa fi se ori sh kd vl) (V : lv_R c nd lv) : cc_n (fun g => lv g ≠ 0) 8 = cc_n (fun j => kd j = 0) c := by
  obtain ⟨P, T2, T3, T4, T5, T6, T7⟩ := id T
  apply Nat.le_antisymm
  · apply cc_inj (f := po)
    · intro g hg hz
      obtain ⟨i, hi, e⟩ := (V g hg).2.mp hz
      subst e
      obtain ⟨t1, t2, t3, t4, t5⟩ := T6 i hi
      rw [t2]
      refine ⟨hi, ?_⟩
      by_cases z : kd i = 0
      · exact z
      · have := (t5 z).1; omega
    · intro a b ha hb hza hzb e
      obtain ⟨i, hi, ea⟩ := (V a ha).2.mp hza
      obtain ⟨j, hj, eb⟩ := (V b hb).2.mp hzb
      subst ea eb
      rw [(T6 i hi).2.1, (T6 j hj).2.1] at e
      rw [e]
  · apply cc_inj (f := nd)
    · intro i hi hz
      have h8 := ((T6 i hi).2.2.2.1 hz).1
      exact ⟨h8, (V _ h8).2.mpr ⟨i, hi, rfl⟩⟩
    · intro a b ha hb _ _ e
      exact tr_inj T ha hb e
theorem lv_c {c : Nat} {nd en po : Nat → Nat} {root : Int32} {pa fi se ori sh kd vl lv : Nat → Int32} (T : tr_T c nd en po root pa fi se ori sh kd vl) (V : lv_R c nd lv) : 2 * cc_n (fun g => lv g ≠ 0) 8 = c + 1 := by
  have a := lv_cnt T V
  have b := ps_cnt0 T.1
  have d := cc_two kd c
  omega
theorem lv_free {c g : Nat} {nd en po : Nat → Nat} {root : Int32} {pa fi se ori sh kd vl lv : Nat → Int32} (T : tr_T c nd en po root pa fi se ori sh kd vl) (V : lv_R c nd lv) (hg : g < 8) (h : lv g = 0) : c ≤ 13 ∧ cc_n (fun g => lv g ≠ 0) 8 ≤ 7 ∧ ∀ i, i < c → nd i ≠ g := by
  have a := lv_c T V
  have b := cc_lt (P := fun g => lv g ≠ 0) (Q := fun _ => True) (a := g) (fun z => z h) trivial (N := 8) (fun _ _ _ => trivial) hg
  rw [cc_all (P := fun _ => True) (fun _ _ => trivial)] at b
  refine ⟨by omega, by omega, ?_⟩
  intro i hi e
  exact (V g hg).2.mpr ⟨i, hi, e⟩ h
theorem lv_node {c n : Nat} {nd en po : Nat → Nat} {root : Int32} {pa fi se ori sh kd vl : Nat → Int32} (T : tr_T c nd en po root pa fi se ori sh kd vl) (h8 : 8 ≤ n) (h : ori n = 0) : ∀ i, i < c → nd i ≠ n := by
  intro i hi e
  obtain ⟨t1, t2, t3, t4, t5⟩ := T.2.2.2.2.2.1 i hi
  subst e
  rw [h] at t3
  have := (t4 t3.symm).1
  omega
theorem lv_last {c : Nat} {nd en po : Nat → Nat} {root : Int32} {pa fi se ori sh kd vl : Nat → Int32} (T : tr_T c nd en po root pa fi se ori sh kd vl) (hc : c ≤ 13) (h : ∀ n, 8 ≤ n → n < 14 → ori n ≠ 0) : ∀ i, i < c → nd i ≠ 14 := by
  obtain ⟨P, T2, T3, T4, T5, T6, T7⟩ := id T
  intro i hi e
  have all : ∀ n, n < 7 → ∃ j, j < c ∧ nd j = n + 8 := by
    intro n hn
    by_cases z : n = 6
    · subst z; exact ⟨i, hi, e⟩
    · apply Classical.byContradiction
      intro y
      exact h (n + 8) (by omega) (by omega) (T7 (n + 8) (by omega) (fun j hj ej => y ⟨j, hj, ej⟩))
  have a : 7 ≤ cc_n (fun j => kd j ≠ 0) c := by
    have b := cc_inj (p := fun _ => True) (q := fun j => kd j ≠ 0) (f := fun n => po (n + 8)) (M := c) (n := 7)
      (fun n hn _ => by
        obtain ⟨j, hj, ej⟩ := all n hn
        rw [← ej, (T6 j hj).2.1]
        refine ⟨hj, fun z => ?_⟩
        have := ((T6 j hj).2.2.2.1 z).1
        omega)
      (fun x y hx hy _ _ e => by
        obtain ⟨j, hj, ej⟩ := all x hx
        obtain ⟨k, hk, ek⟩ := all y hy
        try dsimp only at e
        rw [← ej, ← ek, (T6 j hj).2.1, (T6 k hk).2.1] at e
        subst e
        omega)
    rw [cc_all (P := fun _ => True) (fun _ _ => trivial)] at b
    exact b
  have d := cc_two kd c
  have f := ps_cnt0 P
  omega
end
section
/-- the cells of S made blank -/
noncomputable def ce_w (S : Nat → Prop) (a : Nat → Int32) : Nat → Int32 := fun j => @ite Int32 (S j) (Classical.propDecidable (S j)) 32 (a j)
theorem ce_wt {S : Nat → Prop} {a : Nat → Int32} {j : Nat} (h : S j) : ce_w S a j = 32 := by unfold ce_w; rw [if_pos h]
theorem ce_wf {S : Nat → Prop} {a : Nat → Int32} {j : Nat} (h : ¬ S j) : ce_w S a j = a j := by unfold ce_w; rw [if_neg h]
theorem ce_we {S R : Nat → Prop} {a : Nat → Int32} (h : ∀ j, S j ↔ R j) : ce_w S a = ce_w R a := by
  have : S = R := funext fun j => propext (h j)
  rw [this]
theorem ce_w0 {S : Nat → Prop} {a : Nat → Int32} (h : ∀ j, ¬ S j) : ce_w S a = a := funext fun j => ce_wf (h j)
theorem ce_wu {S R : Nat → Prop} {a : Nat → Int32} {k : Nat} (h : ∀ j, R j ↔ S j ∨ j = k) : upd (ce_w S a) k 32 = ce_w R a := by
  funext j
  by_cases z : j = k
  · subst z; rw [pk_us, ce_wt ((h j).mpr (Or.inr rfl))]
  · rw [pk_un z]
    by_cases y : S j
    · rw [ce_wt y, ce_wt ((h j).mpr (Or.inl y))]
    · rw [ce_wf y, ce_wf (fun r => ((h j).mp r).elim y z)]
theorem ce_ww {S R : Nat → Prop} {a : Nat → Int32} : ce_w S (ce_w R a) = ce_w (fun j => S j ∨ R j) a := by
  funext j
  by_cases y : S j
  · rw [ce_wt y, ce_wt (Or.inl y)]
  · rw [ce_wf y]
    by_cases z : R j
    · rw [ce_wt z, ce_wt (Or.inr z)]
    · rw [ce_wf z, ce_wf (fun r => r.elim y z)]
/-- rows r0 to r1, columns c0 to c1 of the screen that begins at B -/
def ce_q (B r0 c0 r1 c1 j : Nat) : Prop := B ≤ j ∧ r0 ≤ (j - B) / 24 ∧ (j - B) / 24 < r1 ∧ c0 ≤ (j - B) % 24 ∧ (j - B) % 24 < c1
/-- what lies at s to i has come from 24 cells behind -/
def ce_m (a : Nat → Int32) (s i : Nat) : Nat → Int32 := fun j => if s ≤ j ∧ j < i then a (j + 24) else a j
theorem ce_m0 {a : Nat → Int32} {s : Nat} : ce_m a s s = a := by
  funext j
  unfold ce_m
  rw [if_neg (by omega)]
theorem ce_mu {a : Nat → Int32} {s i : Nat} (h : s ≤ i) : upd (ce_m a s i) i (ce_m a s i (i + 24)) = ce_m a s (i + 1) := by
  funext j
  by_cases z : j = i
  · subst z
    rw [pk_us]
    unfold ce_m
    rw [if_neg (by omega), if_pos (by omega)]
  · rw [pk_un z]
    unfold ce_m
    by_cases y : s ≤ j ∧ j < i
    · rw [if_pos y, if_pos (by omega)]
    · rw [if_neg y, if_neg (by omega)]
noncomputable def ce_c (s l : Nat) (a : Nat → Int32) : Nat → Int32 := ce_w (fun j => l ≤ j ∧ j < l + 24) (ce_m a s l)
noncomputable def ce_n (s l : Nat) : Nat → (Nat → Int32) → (Nat → Int32)
  | 0, a => a
  | n + 1, a => ce_c s l (ce_n s l n a)
/-- the screens at B are alike in both, hold chars, and are blank beyond w and h -/
def ce_R (B w h : Nat) (x y : Nat → Int32) : Prop := ∀ j, B ≤ j → j < B + 288 → x j = y j ∧ (∃ n, n < 65536 ∧ x j = nI n) ∧ ((h ≤ (j - B) / 24 ∨ w ≤ (j - B) % 24) → x j = 32)
theorem ce_Rw {B w h : Nat} {x y : Nat → Int32} {S : Nat → Prop} (R : ce_R B w h x y) : ce_R B w h (ce_w S x) (ce_w S y) := by
  intro j h1 h2
  obtain ⟨a, b, d⟩ := R j h1 h2
  by_cases z : S j
  · rw [ce_wt z, ce_wt z]; exact ⟨rfl, ⟨32, by omega, rfl⟩, fun _ => rfl⟩
  · rw [ce_wf z, ce_wf z]; exact ⟨a, b, d⟩
/-- blanked by S on one side, by R on the other, where they differ only beyond w and h -/
theorem ce_Rw2 {B w h w' h' : Nat} {x y : Nat → Int32} {S U : Nat → Prop} (R : ce_R B w h x y) (e : ∀ j, B ≤ j → j < B + 288 → (¬ S j ∧ U j → h ≤ (j - B) / 24 ∨ w ≤ (j - B) % 24) ∧ (S j → U j) ∧ ((h' ≤ (j - B) / 24 ∨ w' ≤ (j - B) % 24) → S j ∨ h ≤ (j - B) / 24 ∨ w ≤ (j - B) % 24)) : ce_R B w' h' (ce_w S x) (ce_w U y) := by
  intro j h1 h2
  obtain ⟨a, b, d⟩ := R j h1 h2
  obtain ⟨e1, e2, e3⟩ := e j h1 h2
  by_cases z : S j
  · rw [ce_wt z, ce_wt (e2 z)]; exact ⟨rfl, ⟨32, by omega, rfl⟩, fun _ => rfl⟩
  · rw [ce_wf z]
    refine ⟨?_, b, fun q => ?_⟩
    · by_cases u : U j
      · rw [ce_wt u]; exact d (e1 ⟨z, u⟩)
      · rw [ce_wf u]; exact a
    · rcases e3 q with s | s
      · exact absurd s z
      · exact d s
theorem ce_Rm {B w h t b : Nat} {x y : Nat → Int32} (R : ce_R B w h x y) (hb : b < 12) (hbh : b < h) : ce_R B w h (ce_c (B + t * 24) (B + b * 24) x) (ce_c (B + t * 24) (B + b * 24) y) := by
  intro j h1 h2
  unfold ce_c
  by_cases z : B + b * 24 ≤ j ∧ j < B + b * 24 + 24
  · rw [ce_wt z, ce_wt z]; exact ⟨rfl, ⟨32, by omega, rfl⟩, fun _ => rfl⟩
  · rw [ce_wf z, ce_wf z]
    unfold ce_m
    by_cases q : B + t * 24 ≤ j ∧ j < B + b * 24
    · rw [if_pos q, if_pos q]
      obtain ⟨a, d, f⟩ := R (j + 24) (by omega) (by omega)
      exact ⟨a, d, fun g => f (by omega)⟩
    · rw [if_neg q, if_neg q]
      exact R j h1 h2
theorem ce_Rn {B w h t b : Nat} (hb : b < 12) (hbh : b < h) : ∀ (n : Nat) {x y : Nat → Int32}, ce_R B w h x y → ce_R B w h (ce_n (B + t * 24) (B + b * 24) n x) (ce_n (B + t * 24) (B + b * 24) n y)
  | 0, _, _, R => R
  | n + 1, _, _, R => ce_Rm (ce_Rn hb hbh n R) hb hbh
theorem ce_Rp {B w h k n : Nat} {x y : Nat → Int32} (R : ce_R B w h x y) (hn : n < 65536) (h1 : B ≤ k) (h2 : (k - B) / 24 < h) (h3 : (k - B) % 24 < w) : ce_R B w h (upd x k (nI n)) (upd y k (nI n)) := by
  intro j g1 g2
  by_cases z : j = k
  · subst z
    rw [pk_us, pk_us]
    exact ⟨rfl, ⟨n, hn, rfl⟩, fun q => by omega⟩
  · rw [pk_un z, pk_un z]
    exact R j g1 g2
/-- both arrays are unchanged outside the screen at B -/
def ce_O (B : Nat) (x x' : Nat → Int32) : Prop := ∀ j, (j < B ∨ B + 288 ≤ j) → x' j = x j
theorem ce_Oo {B C w h : Nat} {x y x' y' : Nat → Int32} (hx : ce_O B x x') (hy : ce_O B y y') (hd : C + 288 ≤ B ∨ B + 288 ≤ C) (R : ce_R C w h x y) : ce_R C w h x' y' := by
  intro j h1 h2
  rw [hx j (by omega), hy j (by omega)]
  exact R j h1 h2
theorem ce_Ow {B : Nat} {x : Nat → Int32} {S : Nat → Prop} (h : ∀ j, S j → B ≤ j ∧ j < B + 288) : ce_O B x (ce_w S x) := fun j hj => ce_wf (fun z => by have := h j z; omega)
theorem ce_Oc {B t b : Nat} {x : Nat → Int32} (hb : b < 12) : ce_O B x (ce_c (B + t * 24) (B + b * 24) x) := by
  intro j hj
  unfold ce_c
  rw [ce_wf (by omega)]
  unfold ce_m
  rw [if_neg (by omega)]
theorem ce_On {B t b : Nat} (hb : b < 12) : ∀ (n : Nat) {x : Nat → Int32}, ce_O B x (ce_n (B + t * 24) (B + b * 24) n x)
  | 0, _ => fun _ _ => rfl
  | n + 1, _ => fun j hj => (ce_Oc hb j hj).trans (ce_On hb n j hj)
theorem ce_Op {B k : Nat} {x : Nat → Int32} {v : Int32} (h1 : B ≤ k) (h2 : k < B + 288) : ce_O B x (upd x k v) := fun j hj => pk_un (by omega)
theorem ce_g0 {S : Nat → Prop} {lo hi j : Nat} (h : hi ≤ lo) : S j ↔ S j ∨ (lo ≤ j ∧ j < hi) := ⟨Or.inl, fun z => z.elim id (fun q => by omega)⟩
theorem ce_g1 {S : Nat → Prop} {lo hi j : Nat} (h : lo ≤ hi) : S j ∨ (lo ≤ j ∧ j < hi + 1) ↔ (S j ∨ (lo ≤ j ∧ j < hi)) ∨ j = hi := by
  constructor
  · rintro (z | z)
    · exact Or.inl (Or.inl z)
    · by_cases e : j = hi
      · exact Or.inr e
      · exact Or.inl (Or.inr (by omega))
  · rintro ((z | z) | z)
    · exact Or.inl z
    · exact Or.inr (by omega)
    · exact Or.inr (by omega)
theorem ce_g2 {B r0 c0 c1 i j : Nat} (hc : c1 ≤ 24) (hr : r0 ≤ i) : ce_q B r0 c0 (i + 1) c1 j ↔ ce_q B r0 c0 i c1 j ∨ (B + i * 24 + c0 ≤ j ∧ j < B + i * 24 + c1) := by
  unfold ce_q
  constructor <;> intro z <;> omega
theorem ce_g3 {lo hi j : Nat} (h : lo ≤ hi) : (lo ≤ j ∧ j < hi + 1) ↔ (lo ≤ j ∧ j < hi) ∨ j = hi := by
  constructor <;> intro z <;> omega
end
section
theorem ps_st_node {c : Nat} {kd : Nat → Int32} {en : Nat → Nat} (P : ps_P c kd en) {Q : Nat → Nat → Prop} {e s j : Nat} (he : e ≤ c) (hj : j < c) (hk : kd j ≠ 0) (h : ps_st en Q e s (en j)) (q1 : Q (s + 1) (j + 1)) (q2 : Q s (en (j + 1))) : ps_st en Q e (s + 2) (j + 1) := by
  obtain ⟨a1, a2, a3, a4, a5, a6⟩ := ps_nd P hj hk
  have l := ps_st_len P he h
  refine ⟨by omega, q1, by omega, q2, ?_⟩
  rw [a4]
  exact h
/-- what the reference's layout has found, the last split whose border holds the cell -/
def la_F (kd : Nat → Int32) (nd : Nat → Nat) (rx ry rw rh : Nat → Int32) (tr tc : Int32) : Nat → Int32
  | 0 => 0
  | i + 1 => if kd i = 1 then (if tc = rx (nd i) + rw (nd (i + 1)) ∧ ry (nd i) ≤ tr ∧ tr < ry (nd i) + rh (nd i) then 124 else la_F kd nd rx ry rw rh tr tc i)
    else if kd i = 2 then (if tr = ry (nd i) + rh (nd (i + 1)) ∧ rx (nd i) ≤ tc ∧ tc < rx (nd i) + rw (nd i) then 45 else la_F kd nd rx ry rw rh tr tc i)
    else la_F kd nd rx ry rw rh tr tc i
theorem la_F1 {c : Nat} {kd : Nat → Int32} {nd : Nat → Nat} {lw lh rx ry rw rh : Nat → Int32} {w0 h0 r q : Nat} {X Y W H mw mh : Nat → Nat} {en : Nat → Nat} (P : ps_P c kd en) (hw : w0 ≤ 24) (hh : h0 ≤ 12) (hr : r < 2 ^ 31) (hq : q < 2 ^ 31) (N : la_N c nd lw lh rx ry rw rh w0 h0 X Y W H mw mh) {i : Nat} (hi : i < c) :
    la_F kd nd rx ry rw rh (nI r) (nI q) (i + 1) = (@ite Int32 (ge_bd kd X Y W H r q i) (Classical.propDecidable _) (if kd i = 1 then 124 else 45) (la_F kd nd rx ry rw rh (nI r) (nI q) i)) := by
  obtain ⟨n1, n2, n3, n4, n5, n6, n7, n8, n9, n10, n11, n12⟩ := N i hi
  show (if kd i = 1 then (if nI q = rx (nd i) + rw (nd (i + 1)) ∧ ry (nd i) ≤ nI r ∧ nI r < ry (nd i) + rh (nd i) then (124 : Int32) else la_F kd nd rx ry rw rh (nI r) (nI q) i)
    else if kd i = 2 then (if nI r = ry (nd i) + rh (nd (i + 1)) ∧ rx (nd i) ≤ nI q ∧ nI q < rx (nd i) + rw (nd i) then 45 else la_F kd nd rx ry rw rh (nI r) (nI q) i)
    else la_F kd nd rx ry rw rh (nI r) (nI q) i) = _
  by_cases k1 : kd i = 1
  · obtain ⟨a1, a2, a3, a4, a5, a6⟩ := ps_nd P hi (ge_10 k1)
    obtain ⟨p1, p2, p3, p4, p5, p6, p7, p8, p9, p10, p11, p12⟩ := N (i + 1) a5
    rw [if_pos k1, if_pos k1, n3, n4, n6, p5, nI_add, nI_add]
    have hz : (nI q = nI (X i + W (i + 1)) ∧ nI (Y i) ≤ nI r ∧ nI r < nI (Y i + H i)) ↔ (q = X i + W (i + 1) ∧ Y i ≤ r ∧ r < Y i + H i) := by
      rw [nI_eq (by omega) (by omega), nI_leI (by omega) (by omega), nI_ltI (by omega) (by omega)]
    by_cases z : q = X i + W (i + 1) ∧ Y i ≤ r ∧ r < Y i + H i
    · rw [if_pos (hz.mpr z), if_pos (show ge_bd kd X Y W H r q i from Or.inl ⟨k1, z⟩)]
    · rw [if_neg (fun y => z (hz.mp y)), if_neg]
      rintro (b | b)
      · exact z b.2
      · exact ge_12 k1 b.1
  · rw [if_neg k1, if_neg k1]
    by_cases k2 : kd i = 2
    · obtain ⟨a1, a2, a3, a4, a5, a6⟩ := ps_nd P hi (ge_20 k2)
      obtain ⟨p1, p2, p3, p4, p5, p6, p7, p8, p9, p10, p11, p12⟩ := N (i + 1) a5
      rw [if_pos k2, n3, n4, n5, p6, nI_add, nI_add]
      have hz : (nI r = nI (Y i + H (i + 1)) ∧ nI (X i) ≤ nI q ∧ nI q < nI (X i + W i)) ↔ (r = Y i + H (i + 1) ∧ X i ≤ q ∧ q < X i + W i) := by
        rw [nI_eq (by omega) (by omega), nI_leI (by omega) (by omega), nI_ltI (by omega) (by omega)]
      by_cases z : r = Y i + H (i + 1) ∧ X i ≤ q ∧ q < X i + W i
      · rw [if_pos (hz.mpr z), if_pos (show ge_bd kd X Y W H r q i from Or.inr ⟨k2, z⟩)]
      · rw [if_neg (fun y => z (hz.mp y)), if_neg]
        rintro (b | b)
        · exact k1 b.1
        · exact z b.2
    · rw [if_neg k2, if_neg]
      rintro (b | b)
      · exact k1 b.1
      · exact k2 b.1
theorem la_Fv {c : Nat} {kd : Nat → Int32} {nd en : Nat → Nat} {lw lh rx ry rw rh : Nat → Int32} {w0 h0 r q : Nat} {X Y W H mw mh : Nat → Nat} (P : ps_P c kd en) (hw : w0 ≤ 24) (hh : h0 ≤ 12) (hr : r < 2 ^ 31) (hq : q < 2 ^ 31) (N : la_N c nd lw lh rx ry rw rh w0 h0 X Y W H mw mh) (G : ge_G c kd en X Y W H)
    {j : Nat} (hj : j < c) (hb : ge_bd kd X Y W H r q j) : la_F kd nd rx ry rw rh (nI r) (nI q) c = if kd j = 1 then 124 else 45 := by
  have key : ∀ i, i ≤ c → j < i → la_F kd nd rx ry rw rh (nI r) (nI q) i = if kd j = 1 then 124 else 45 := by
    intro i
    induction i with
    | zero => intro _ h; omega
    | succ i ih =>
      intro hi h
      rw [la_F1 P hw hh hr hq N (by omega)]
      by_cases z : i = j
      · subst z; rw [if_pos hb]
      · rw [if_neg, ih (by omega) (by omega)]
        intro b
        exact z (ge_one P G 0 P.1 i j (Nat.zero_le _) (by rw [P.2.1]; omega) (Nat.zero_le _) (by rw [P.2.1]; omega) b hb)
  exact key c (Nat.le_refl _) hj
/-- the nearest split of orientation o above the leaf at p -/
def an_B (kd : Nat → Int32) (en : Nat → Nat) (o : Int32) (p b : Nat) : Prop := b < p ∧ kd b = o ∧ p < en b ∧ ∀ j, b < j → j < p → ¬ (kd j = o ∧ p < en j)
def an_0 (kd : Nat → Int32) (en : Nat → Nat) (o : Int32) (p : Nat) : Prop := ∀ j, j < p → ¬ (kd j = o ∧ p < en j)
/-- q is p or a place above it, and none from q to p is of orientation o -/
def an_I (kd : Nat → Int32) (en : Nat → Nat) (o : Int32) (p q : Nat) : Prop := q ≤ p ∧ p < en q ∧ ∀ j, q ≤ j → j < p → ¬ (kd j = o ∧ p < en j)
theorem an_up {c : Nat} {kd : Nat → Int32} {en : Nat → Nat} (P : ps_P c kd en) {o : Int32} {p q u : Nat} (I : an_I kd en o p q) (h : ps_ch kd en c u q) (hk : kd u ≠ o) : an_I kd en o p u := by
  obtain ⟨i1, i2, i3⟩ := I
  have l := ps_ch_lt P h
  refine ⟨by omega, by omega, ?_⟩
  intro j h1 h2
  by_cases z : j = u
  · subst z; exact fun y => hk y.1
  · by_cases y : j < q
    · have := ps_btw P h (by omega) y
      exact fun x => by omega
    · exact i3 j (by omega) h2
theorem an_hit {c : Nat} {kd : Nat → Int32} {en : Nat → Nat} (P : ps_P c kd en) {o : Int32} {p q u : Nat} (I : an_I kd en o p q) (h : ps_ch kd en c u q) (hk : kd u = o) : an_B kd en o p u := by
  obtain ⟨i1, i2, i3⟩ := I
  have l := ps_ch_lt P h
  refine ⟨by omega, hk, by omega, ?_⟩
  intro j h1 h2
  by_cases y : j < q
  · have := ps_btw P h (by omega) y
    exact fun x => by omega
  · exact i3 j (by omega) h2
theorem an_un {kd : Nat → Int32} {en : Nat → Nat} {o : Int32} {p b d : Nat} (hb : an_B kd en o p b) (hd : an_B kd en o p d) : b = d := by
  obtain ⟨b1, b2, b3, b4⟩ := hb
  obtain ⟨d1, d2, d3, d4⟩ := hd
  by_cases z : b < d
  · exact absurd ⟨d2, d3⟩ (b4 d z d1)
  · by_cases y : d < b
    · exact absurd ⟨b2, b3⟩ (d4 b y b1)
    · omega
end
section
/-- what stands in an array after the panes below i that have a flag have been given their new value -/
def fi_A (lv : Nat → Int32) (i : Nat) (nw od : Nat → Int32) : Nat → Int32 := fun g => if g < i ∧ lv g ≠ 0 then nw g else od g
theorem fi_A0 {lv nw od : Nat → Int32} : fi_A lv 0 nw od = od := by
  funext g
  unfold fi_A
  rw [if_neg (by omega)]
theorem fi_Ao {lv nw od : Nat → Int32} {i g : Nat} (h : i ≤ g) : fi_A lv i nw od g = od g := by
  unfold fi_A
  rw [if_neg (by omega)]
theorem fi_An {lv nw od : Nat → Int32} {i g : Nat} (h : g < i) (hl : lv g ≠ 0) : fi_A lv i nw od g = nw g := by
  unfold fi_A
  rw [if_pos ⟨h, hl⟩]
theorem fi_Ad {lv nw od : Nat → Int32} {i g : Nat} (hl : lv g = 0) : fi_A lv i nw od g = od g := by
  unfold fi_A
  rw [if_neg (fun z => z.2 hl)]
theorem fi_Ak {lv nw od : Nat → Int32} {i : Nat} (h : lv i = 0 ∨ nw i = od i) : fi_A lv (i + 1) nw od = fi_A lv i nw od := by
  funext g
  by_cases z : g = i
  · subst z
    rw [fi_Ao (Nat.le_refl _)]
    rcases h with h | h
    · rw [fi_Ad h]
    · by_cases y : lv g = 0
      · rw [fi_Ad y]
      · rw [fi_An (by omega) y, h]
  · unfold fi_A
    by_cases y : g < i ∧ lv g ≠ 0
    · rw [if_pos y, if_pos ⟨by omega, y.2⟩]
    · rw [if_neg y, if_neg (fun x => y ⟨by omega, x.2⟩)]
theorem fi_Au {lv nw od : Nat → Int32} {i : Nat} {x : Int32} (h : lv i ≠ 0) (hx : x = nw i) : upd (fi_A lv i nw od) i x = fi_A lv (i + 1) nw od := by
  subst hx
  funext g
  by_cases z : g = i
  · subst z; rw [pk_us, fi_An (by omega) h]
  · rw [pk_un z]
    unfold fi_A
    by_cases y : g < i ∧ lv g ≠ 0
    · rw [if_pos y, if_pos ⟨by omega, y.2⟩]
    · rw [if_neg y, if_neg (fun x => y ⟨by omega, x.2⟩)]
theorem fi_Ae {lv nw nw' od : Nat → Int32} {i : Nat} (h : ∀ g, g < i → lv g ≠ 0 → nw g = nw' g) : fi_A lv i nw od = fi_A lv i nw' od := by
  funext g
  by_cases y : g < i ∧ lv g ≠ 0
  · rw [fi_An y.1 y.2, fi_An y.1 y.2, h g y.1 y.2]
  · unfold fi_A
    rw [if_neg y, if_neg y]
theorem fi_Al {lv lv' nw od : Nat → Int32} {i : Nat} (h : ∀ g, g < i → (lv g ≠ 0 ↔ lv' g ≠ 0)) : fi_A lv i nw od = fi_A lv' i nw od := by
  funext g
  by_cases y : g < i ∧ lv g ≠ 0
  · rw [fi_An y.1 y.2, fi_An y.1 ((h g y.1).mp y.2)]
  · unfold fi_A
    rw [if_neg y, if_neg (fun z => y ⟨z.1, (h g z.1).mpr z.2⟩)]
/-- the cells that are made blank when the panes below i keep kw columns and kh rows -/
def fi_S (lv : Nat → Int32) (kw kh : Nat → Nat) (i : Nat) (j : Nat) : Prop := j / 288 < i ∧ lv (j / 288) ≠ 0 ∧ (kh (j / 288) ≤ j % 288 / 24 ∨ kw (j / 288) ≤ j % 288 % 24)
theorem fi_S0 {lv : Nat → Int32} {kw kh : Nat → Nat} {a : Nat → Int32} : ce_w (fi_S lv kw kh 0) a = a := ce_w0 (fun j h => by have := h.1; omega)
theorem fi_Sk {lv : Nat → Int32} {kw kh : Nat → Nat} {i : Nat} {a : Nat → Int32} (h : lv i = 0) : ce_w (fi_S lv kw kh (i + 1)) a = ce_w (fi_S lv kw kh i) a := by
  apply ce_we
  intro j
  constructor
  · intro z
    obtain ⟨z1, z2, z3⟩ := z
    have : j / 288 ≠ i := fun e => z2 (by rw [e]; exact h)
    exact ⟨by omega, z2, z3⟩
  · intro z
    obtain ⟨z1, z2, z3⟩ := z
    exact ⟨by omega, z2, z3⟩
theorem fi_Su {lv : Nat → Int32} {kw kh : Nat → Nat} {i : Nat} {a : Nat → Int32} {S : Nat → Prop} (h : lv i ≠ 0) (hS : ∀ j, S j ↔ i * 288 ≤ j ∧ j < i * 288 + 288 ∧ (kh i ≤ (j - i * 288) / 24 ∨ kw i ≤ (j - i * 288) % 24)) : ce_w S (ce_w (fi_S lv kw kh i) a) = ce_w (fi_S lv kw kh (i + 1)) a := by
  rw [ce_ww]
  apply ce_we
  intro j
  rw [hS]
  unfold fi_S
  by_cases e : j / 288 = i
  · have e2 : j % 288 = j - i * 288 := by omega
    rw [e, e2]
    constructor
    · rintro (z | z)
      · exact ⟨by omega, h, z.2.2⟩
      · omega
    · intro z
      exact Or.inl ⟨by omega, by omega, z.2.2⟩
  · constructor
    · rintro (z | z)
      · omega
      · exact ⟨by omega, z.2⟩
    · intro z
      exact Or.inr ⟨by omega, z.2⟩
theorem fi_R {lv : Nat → Int32} {kw kh : Nat → Nat} {g ow oh nw nh : Nat} {x y : Nat → Int32} (hg : g < 8) (hl : lv g ≠ 0) (R : ce_R (g * 288) ow oh x y) (h1 : kw g ≤ nw) (h2 : kh g ≤ nh) : ce_R (g * 288) nw nh (ce_w (fi_S lv kw kh 8) x) (ce_w (fi_S lv kw kh 8) y) := by
  apply ce_Rw2 R
  intro j b1 b2
  refine ⟨fun z => absurd z.2 z.1, id, fun z => Or.inl ?_⟩
  have e : j / 288 = g := by omega
  have e2 : j % 288 = j - g * 288 := by omega
  unfold fi_S
  rw [e, e2]
  exact ⟨hg, hl, by omega⟩
theorem fi_new {B w h : Nat} {x y : Nat → Int32} : ce_R B w h (ce_w (ce_q B 0 0 12 24) x) (ce_w (ce_q B 0 0 12 24) y) := by
  intro j h1 h2
  have q : ce_q B 0 0 12 24 j := ⟨h1, by omega, by omega, by omega, by omega⟩
  rw [ce_wt q, ce_wt q]
  exact ⟨rfl, ⟨32, by omega, rfl⟩, fun _ => rfl⟩
theorem fi_newO {B : Nat} {x : Nat → Int32} : ce_O B x (ce_w (ce_q B 0 0 12 24) x) := ce_Ow (fun j h => by
  obtain ⟨h1, h2, h3, h4, h5⟩ := h
  omega)
end
section
/-- what putInPlace makes of the children's links: x comes where the place q stood -/
def pu_S (c : Nat) (nd en : Nat → Nat) (kd fi se fi' se' : Nat → Int32) (root root' x : Int32) (q : Nat) : Prop :=
  root' = (if q = 0 then x else root) ∧ (∀ j, j < c → kd j ≠ 0 → fi' (nd j) = if j + 1 = q then x else fi (nd j)) ∧ (∀ j, j < c → kd j ≠ 0 → se' (nd j) = if en (j + 1) = q then x else se (nd j)) ∧
  (∀ n, (∀ j, j < c → nd j ≠ n) → fi' n = fi n ∧ se' n = se n)
theorem pu_0 {c : Nat} {nd en po : Nat → Nat} {root x : Int32} {pa fi se ori sh kd vl : Nat → Int32} (T : tr_T c nd en po root pa fi se ori sh kd vl) : pu_S c nd en kd fi se fi se root x x 0 := by
  refine ⟨(if_pos rfl).symm, fun j hj hk => ?_, fun j hj hk => ?_, fun n _ => ⟨rfl, rfl⟩⟩
  · rw [if_neg (by omega)]
  · have := ps_nd T.1 hj hk
    rw [if_neg (by omega)]
theorem pu_1 {c u : Nat} {nd en po : Nat → Nat} {root x : Int32} {pa fi se ori sh kd vl : Nat → Int32} (T : tr_T c nd en po root pa fi se ori sh kd vl) (hu : u < c) (hk : kd u ≠ 0) : pu_S c nd en kd fi se (upd fi (nd u) x) se root root x (u + 1) := by
  have P := T.1
  refine ⟨(if_neg (by omega)).symm, fun j hj hkj => ?_, fun j hj hkj => ?_, fun n hn => ⟨pk_un (fun e => hn u hu e.symm), rfl⟩⟩
  · by_cases z : j = u
    · subst z; rw [pk_us, if_pos rfl]
    · rw [pk_un (fun e => z (tr_inj T hj hu e)), if_neg (by omega)]
  · rw [if_neg]
    intro e
    have a : j = u := ps_un P (q := u + 1) ⟨hj, hkj, Or.inr e.symm⟩ ⟨hu, hk, Or.inl rfl⟩
    subst a
    have := ps_nd P hu hk
    omega
theorem pu_2 {c u : Nat} {nd en po : Nat → Nat} {root x : Int32} {pa fi se ori sh kd vl : Nat → Int32} (T : tr_T c nd en po root pa fi se ori sh kd vl) (hu : u < c) (hk : kd u ≠ 0) : pu_S c nd en kd fi se fi (upd se (nd u) x) root root x (en (u + 1)) := by
  have P := T.1
  have b := ps_nd P hu hk
  refine ⟨(if_neg (by omega)).symm, fun j hj hkj => ?_, fun j hj hkj => ?_, fun n hn => ⟨rfl, pk_un (fun e => hn u hu e.symm)⟩⟩
  · rw [if_neg]
    intro e
    have a : j = u := ps_un P (q := en (u + 1)) ⟨hj, hkj, Or.inl e.symm⟩ ⟨hu, hk, Or.inr rfl⟩
    subst a
    omega
  · by_cases z : j = u
    · subst z; rw [pk_us, if_pos rfl]
    · rw [pk_un (fun e => z (tr_inj T hj hu e)), if_neg]
      intro e
      exact z (ps_un P (q := en (u + 1)) ⟨hj, hkj, Or.inr e.symm⟩ ⟨hu, hk, Or.inr rfl⟩)
/-- where a node hangs: at the root, or as first or as second child -/
theorem pu_w {c q : Nat} {nd en po : Nat → Nat} {root : Int32} {pa fi se ori sh kd vl : Nat → Int32} (T : tr_T c nd en po root pa fi se ori sh kd vl) (hq : q < c) :
    (q = 0 ∧ pa (nd q) = -1) ∨ ∃ u, u < c ∧ kd u ≠ 0 ∧ u < q ∧ pa (nd q) = nI (nd u) ∧ nd u < 15 ∧ ((q = u + 1 ∧ fi (nd u) = nI (nd q)) ∨ (q = en (u + 1) ∧ fi (nd u) = nI (nd (u + 1)) ∧ nd (u + 1) ≠ nd q ∧ nd (u + 1) < 15 ∧ se (nd u) = nI (nd q))) := by
  obtain ⟨P, T2, T3, T4, T5, T6, T7⟩ := id T
  rcases ps_par P q hq with e | ⟨u, h⟩
  · subst e; exact Or.inl ⟨rfl, T4⟩
  · have l := ps_ch_lt P h
    obtain ⟨hu, hk, h⟩ := h
    obtain ⟨t1, t2, t3, t4, t5⟩ := T6 u hu
    obtain ⟨u1, u2, u3, u4, u5, u6⟩ := t5 hk
    obtain ⟨a1, a2, a3, a4, a5, a6⟩ := ps_nd P hu hk
    right
    refine ⟨u, hu, hk, l.1, ?_, t1, ?_⟩
    · rcases h with h | h
      · rw [h]; exact u5
      · rw [h]; exact u6
    · rcases h with h | h
      · exact Or.inl ⟨h, by rw [h]; exact u3⟩
      · exact Or.inr ⟨h, u3, fun e => by have := tr_inj T a5 hq e; omega, (T6 _ a5).1, by rw [h]; exact u4⟩
theorem sp_arr {c p : Nat} {k k1 : Nat → Int32} {a b d : Int32} (h1 : ∀ j, j < p → k1 j = k j) (h2 : ∀ j, p < j → j < c → k1 (j + 2) = k j) : ∀ j, j < c + 2 → upd (upd (upd k1 p a) (p + 1) b) (p + 2) d j = sp_f p a b d k j := by
  intro j hj
  by_cases z0 : j < p
  · rw [pk_un (by omega), pk_un (by omega), pk_un (by omega), h1 j z0]
    unfold sp_f
    rw [if_pos z0]
  · by_cases z1 : j = p
    · subst z1
      rw [pk_un (by omega), pk_un (by omega), pk_us, sp_f0]
    · by_cases z2 : j = p + 1
      · subst z2; rw [pk_un (by omega), pk_us, sp_f1]
      · by_cases z3 : j = p + 2
        · subst z3; rw [pk_us, sp_f2]
        · rw [pk_un (by omega), pk_un (by omega), pk_un (by omega)]
          have e := h2 (j - 2) (by omega) (by omega)
          rw [show j - 2 + 2 = j by omega] at e
          rw [e]
          unfold sp_f
          rw [if_neg z0, if_neg z1, if_neg z2, if_neg z3]
end
section
theorem nr_b0 : vp_nar .boolean 0 = 0 := by decide
theorem nr_b1 : vp_nar .boolean 1 = 1 := by decide
theorem nr_c {n : Nat} (h : n < 65536) : vp_nar .char (nI n) = nI n := Value.int.inj (pk_charN h).1
theorem nr_32 : vp_nar .char 32 = 32 := nr_c (n := 32) (by omega)
/-- the screen at B holds chars -/
def ce_H (B : Nat) (a : Nat → Int32) : Prop := ∀ j, B ≤ j → j < B + 288 → ∃ n, n < 65536 ∧ a j = nI n
theorem ce_Hx {B w h : Nat} {x y : Nat → Int32} (R : ce_R B w h x y) : ce_H B x := fun j h1 h2 => (R j h1 h2).2.1
theorem ce_Hy {B w h : Nat} {x y : Nat → Int32} (R : ce_R B w h x y) : ce_H B y := fun j h1 h2 => by
  obtain ⟨e, n, _⟩ := R j h1 h2
  rw [← e]
  exact n
theorem ce_Hc {B t b : Nat} {a : Nat → Int32} (hb : b < 12) (H : ce_H B a) : ce_H B (ce_c (B + t * 24) (B + b * 24) a) := by
  intro j h1 h2
  unfold ce_c
  by_cases z : B + b * 24 ≤ j ∧ j < B + b * 24 + 24
  · rw [ce_wt z]; exact ⟨32, by omega, rfl⟩
  · rw [ce_wf z]
    unfold ce_m
    by_cases q : B + t * 24 ≤ j ∧ j < B + b * 24
    · rw [if_pos q]; exact H (j + 24) (by omega) (by omega)
    · rw [if_neg q]; exact H j h1 h2
theorem ce_Hn {B t b : Nat} {a : Nat → Int32} (hb : b < 12) (H : ce_H B a) : ∀ n, ce_H B (ce_n (B + t * 24) (B + b * 24) n a)
  | 0 => H
  | n + 1 => ce_Hc hb (ce_Hn hb H n)
theorem cg_8 {g : Nat} (h : g < 8) : (nI g).toNatClampNeg = g := nI_clamp (by omega)
theorem cg_15 {g : Nat} (h : g < 15) : (nI g).toNatClampNeg = g := nI_clamp (by omega)
theorem cg_16 {g : Nat} (h : g < 16) : (nI g).toNatClampNeg = g := nI_clamp (by omega)
theorem vi_8 {g : Nat} (h : g < 8) : vp_in (nI g) 8 := vp_in_nI h (by omega)
theorem vi_15 {g : Nat} (h : g < 15) : vp_in (nI g) 15 := vp_in_nI h (by omega)
theorem vi_16 {g : Nat} (h : g < 16) : vp_in (nI g) 16 := vp_in_nI h (by omega)
theorem pk_uu {f : Nat → Int32} {k : Nat} : upd f k (f k) = f := by
  funext j
  by_cases z : j = k
  · subst z; rw [pk_us]
  · rw [pk_un z]
def fi_r (R rh : Nat → Int32) : Nat → Int32 := fun g => la_mn (R g) (rh g - 1)
def fi_t (T B rh : Nat → Int32) : Nat → Int32 := fun g => if rh g - 1 < B g then 0 else T g
def fi_b (B rh : Nat → Int32) : Nat → Int32 := fun g => if rh g - 1 < B g then rh g - 1 else B g
/-- the ranges of what pane g keeps beside its screen -/
def rl_q (w h : Nat) (R C T B M P1 P2 K : Nat → Int32) (g : Nat) : Prop := ∃ r q t b m a d k : Nat, R g = nI r ∧ r < h ∧ C g = nI q ∧ q < w ∧ T g = nI t ∧ B g = nI b ∧ t ≤ b ∧ b < h ∧ M g = nI m ∧ m ≤ 2 ∧ P1 g = nI a ∧ a ≤ 99 ∧ P2 g = nI d ∧ d ≤ 99 ∧ K g = nI k ∧ k ≤ 2
theorem rl_fit {dv R C T B M P1 P2 K rw rh : Nat → Int32} {g ow oh nw nh : Nat} (hg : g < 8) (hd : dv g ≠ 0) (h1 : rw g = nI nw) (h2 : rh g = nI nh) (w1 : 1 ≤ nw) (w2 : nw ≤ 24) (w3 : 1 ≤ nh) (w4 : nh ≤ 12) (ow4 : ow ≤ 24) (oh4 : oh ≤ 12) (Q : rl_q ow oh R C T B M P1 P2 K g) :
    rl_q nw nh (fi_A dv 8 (fi_r R rh) R) (fi_A dv 8 (fi_r C rw) C) (fi_A dv 8 (fi_t T B rh) T) (fi_A dv 8 (fi_b B rh) B) M P1 P2 K g := by
  obtain ⟨r, q, t, b, m, a, d, k, e1, e2, e3, e4, e5, e6, e7, e8, e9, e10, e11, e12, e13, e14, e15, e16⟩ := Q
  have n1 : fi_A dv 8 (fi_r R rh) R g = nI (if nh - 1 ≤ r then nh - 1 else r) := by
    rw [fi_An hg hd]
    unfold fi_r
    rw [e1, h2, la_sub1 w3, la_mnN (by omega) (by omega)]
  have n2 : fi_A dv 8 (fi_r C rw) C g = nI (if nw - 1 ≤ q then nw - 1 else q) := by
    rw [fi_An hg hd]
    unfold fi_r
    rw [e3, h1, la_sub1 w1, la_mnN (by omega) (by omega)]
  have n3 : fi_A dv 8 (fi_t T B rh) T g = nI (if nh - 1 < b then 0 else t) := by
    rw [fi_An hg hd]
    unfold fi_t
    rw [e5, e6, h2, la_sub1 w3]
    by_cases z : nh - 1 < b
    · rw [if_pos z, if_pos ((nI_ltI (by omega) (by omega)).mpr z)]; rfl
    · rw [if_neg z, if_neg (fun y => z ((nI_ltI (by omega) (by omega)).mp y))]
  have n4 : fi_A dv 8 (fi_b B rh) B g = nI (if nh - 1 < b then nh - 1 else b) := by
    rw [fi_An hg hd]
    unfold fi_b
    rw [e6, h2, la_sub1 w3]
    by_cases z : nh - 1 < b
    · rw [if_pos z, if_pos ((nI_ltI (by omega) (by omega)).mpr z)]
    · rw [if_neg z, if_neg (fun y => z ((nI_ltI (by omega) (by omega)).mp y))]
  refine ⟨_, _, _, _, m, a, d, k, n1, ?_, n2, ?_, n3, n4, ?_, ?_, e9, e10, e11, e12, e13, e14, e15, e16⟩
  · split <;> omega
  · split <;> omega
  · split <;> omega
  · split <;> omega
/-- tree, layout and flags -/
def rl_G (c : Nat) (nd en po : Nat → Nat) (w0 h0 : Nat) (root : Int32) (pa fi se ori sh lw lh rx ry rw rh kd vl lv : Nat → Int32) : Prop :=
  tr_T c nd en po root pa fi se ori sh kd vl ∧ la_L c kd nd en lw lh ∧ la_E c kd vl nd en lw lh rx ry rw rh (nI w0) (nI h0) ∧ 8 ≤ w0 ∧ w0 ≤ 24 ∧ 4 ≤ h0 ∧ h0 ≤ 12 ∧ (∀ a, lw (nd 0) = nI a → a ≤ 24 → a ≤ w0) ∧ (∀ a, lh (nd 0) = nI a → a ≤ 24 → a ≤ h0) ∧ lv_R c nd lv
theorem rl_nat {c : Nat} {nd en po : Nat → Nat} {w0 h0 : Nat} {root : Int32} {pa fi se ori sh lw lh rx ry rw rh kd vl lv : Nat → Int32} (G : rl_G c nd en po w0 h0 root pa fi se ori sh lw lh rx ry rw rh kd vl lv) : ∃ X Y W H mw mh, la_N c nd lw lh rx ry rw rh w0 h0 X Y W H mw mh ∧ ge_G c kd en X Y W H := by
  obtain ⟨T, L, E, g1, g2, g3, g4, g5, g6, g7⟩ := G
  exact la_nat T.1 T.2.2.2.2.1 T.2.1 L E g2 g4 g5 g6
theorem rl_sz {c : Nat} {nd en po : Nat → Nat} {w0 h0 : Nat} {root : Int32} {pa fi se ori sh lw lh rx ry rw rh kd vl lv : Nat → Int32} (G : rl_G c nd en po w0 h0 root pa fi se ori sh lw lh rx ry rw rh kd vl lv) {g : Nat} (hg : g < 8) (hl : lv g ≠ 0) : ∃ x y w h, rx g = nI x ∧ ry g = nI y ∧ rw g = nI w ∧ rh g = nI h ∧ 1 ≤ w ∧ w ≤ 24 ∧ 1 ≤ h ∧ h ≤ 12 ∧ x + w ≤ w0 ∧ y + h ≤ h0 := by
  obtain ⟨X, Y, W, H, mw, mh, N, _⟩ := rl_nat G
  obtain ⟨T, L, E, g1, g2, g3, g4, g5, g6, g7⟩ := G
  obtain ⟨i, hi, e⟩ := (g7 g hg).2.mp hl
  subst e
  obtain ⟨n1, n2, n3, n4, n5, n6, n7, n8, n9, n10, n11, n12⟩ := N i hi
  exact ⟨_, _, _, _, n3, n4, n5, n6, by omega, by omega, by omega, by omega, n11, n12⟩
/-- pane g: the two sides keep the same -/
def rl_p (lv xx xy xw xh sw sh yx yy yw yh R C T B M P1 P2 K xc yc : Nat → Int32) (g : Nat) : Prop :=
  lv g ≠ 0 → yx g = xx g ∧ yy g = xy g ∧ yw g = xw g ∧ yh g = xh g ∧ sw g = xw g ∧ sh g = xh g ∧ ∃ w h, xw g = nI w ∧ xh g = nI h ∧ 1 ≤ w ∧ w ≤ 24 ∧ 1 ≤ h ∧ h ≤ 12 ∧ rl_q w h R C T B M P1 P2 K g ∧ ce_R (g * 288) w h xc yc
end
section
theorem rl_p_mv {lv xx xy xw xh sw sh yx yy yw yh R C T B M P1 P2 K xc yc R' C' T' B' M' P1' P2' K' xc' yc' : Nat → Int32} {g : Nat} (h : rl_p lv xx xy xw xh sw sh yx yy yw yh R C T B M P1 P2 K xc yc g)
    (e : R' g = R g ∧ C' g = C g ∧ T' g = T g ∧ B' g = B g ∧ M' g = M g ∧ P1' g = P1 g ∧ P2' g = P2 g ∧ K' g = K g) (ce : ∀ w h, ce_R (g * 288) w h xc yc → ce_R (g * 288) w h xc' yc') : rl_p lv xx xy xw xh sw sh yx yy yw yh R' C' T' B' M' P1' P2' K' xc' yc' g := by
  intro hl
  obtain ⟨a1, a2, a3, a4, a5, a6, w, hh, b1, b2, b3, b4, b5, b6, q, cr⟩ := h hl
  obtain ⟨e1, e2, e3, e4, e5, e6, e7, e8⟩ := e
  refine ⟨a1, a2, a3, a4, a5, a6, w, hh, b1, b2, b3, b4, b5, b6, ?_, ce w hh cr⟩
  unfold rl_q at q ⊢
  rw [e1, e2, e3, e4, e5, e6, e7, e8]
  exact q
/-- old sizes sw, sh, new sizes xw, xh, what is kept of them kw, kh -/
def fi_F (dv sw sh xw xh : Nat → Int32) (kw kh : Nat → Nat) : Prop := ∀ g, g < 8 → dv g ≠ 0 → ∃ ow oh nw nh : Nat, sw g = nI ow ∧ sh g = nI oh ∧ xw g = nI nw ∧ xh g = nI nh ∧ 1 ≤ nw ∧ nw ≤ 24 ∧ 1 ≤ nh ∧ nh ≤ 12 ∧ ow ≤ 24 ∧ oh ≤ 12 ∧ kw g = (if nw ≤ ow then nw else ow) ∧ kh g = (if nh ≤ oh then nh else oh)
def fi_k (a b : Nat → Int32) : Nat → Nat := fun g => if (b g).toNatClampNeg ≤ (a g).toNatClampNeg then (b g).toNatClampNeg else (a g).toNatClampNeg
theorem fi_kk {a b : Nat → Int32} {g o n : Nat} (h1 : a g = nI o) (h2 : b g = nI n) (ho : o ≤ 24) (hn : n ≤ 24) : fi_k a b g = if n ≤ o then n else o := by
  unfold fi_k
  rw [h1, h2, nI_clamp (by omega), nI_clamp (by omega)]
theorem fi_Fe {dv sw sh xw xh sw' sh' xw' xh' : Nat → Int32} {kw kh : Nat → Nat} (F : fi_F dv sw sh xw xh kw kh) (e : ∀ g, g < 8 → dv g ≠ 0 → sw' g = sw g ∧ sh' g = sh g ∧ xw' g = xw g ∧ xh' g = xh g) : fi_F dv sw' sh' xw' xh' kw kh := by
  intro g hg hd
  obtain ⟨e1, e2, e3, e4⟩ := e g hg hd
  rw [e1, e2, e3, e4]
  exact F g hg hd
/-- a pane that stays, after the layout and the fitting -/
theorem rl_re {dv lv lv' xx xy xw xh sw sh yx yy yw yh R C T B M P1 P2 K xc yc xx' xy' xw' xh' yx' yy' yw' yh' : Nat → Int32} {kw kh : Nat → Nat} {g : Nat} (hg : g < 8) (hd : dv g ≠ 0) (hl : lv g ≠ 0)
    (old : rl_p lv xx xy xw xh sw sh yx yy yw yh R C T B M P1 P2 K xc yc g) (F : fi_F dv sw sh xw' xh' kw kh) (e : yx' g = xx' g ∧ yy' g = xy' g ∧ yw' g = xw' g ∧ yh' g = xh' g) :
    rl_p lv' xx' xy' xw' xh' (fi_A dv 8 xw' sw) (fi_A dv 8 xh' sh) yx' yy' yw' yh' (fi_A dv 8 (fi_r R xh') R) (fi_A dv 8 (fi_r C xw') C) (fi_A dv 8 (fi_t T B xh') T) (fi_A dv 8 (fi_b B xh') B) M P1 P2 K (ce_w (fi_S dv kw kh 8) xc) (ce_w (fi_S dv kw kh 8) yc) g := by
  intro _
  obtain ⟨a1, a2, a3, a4, a5, a6, w, hh, b1, b2, b3, b4, b5, b6, q, cr⟩ := old hl
  obtain ⟨ow, oh, nw, nh, f1, f2, f3, f4, f5, f6, f7, f8, f9, f10, f11, f12⟩ := F g hg hd
  have ew : ow = w := by
    rw [a5, b1, nI_eq (by omega) (by omega)] at f1
    exact f1.symm
  have eh : oh = hh := by
    rw [a6, b2, nI_eq (by omega) (by omega)] at f2
    exact f2.symm
  subst ew eh
  refine ⟨e.1, e.2.1, e.2.2.1, e.2.2.2, fi_An hg hd, fi_An hg hd, nw, nh, f3, f4, f5, f6, f7, f8, rl_fit hg hd f3 f4 f5 f6 f7 f8 b4 b6 q, fi_R hg hd cr ?_ ?_⟩
  · rw [f11]; split <;> omega
  · rw [f12]; split <;> omega
/-- a new share at place b -/
theorem tr_share {c b s : Nat} {nd en po : Nat → Nat} {root : Int32} {pa fi se ori sh kd vl : Nat → Int32} (T : tr_T c nd en po root pa fi se ori sh kd vl) (hb : b < c) (hk : kd b ≠ 0) (s1 : 1 ≤ s) (s2 : s ≤ 99) : tr_T c nd en po root pa fi se ori (upd sh (nd b) (nI s)) kd (upd vl b (nI s)) := by
  obtain ⟨P, T2, T3, T4, T5, T6, T7⟩ := id T
  refine ⟨P, T2, T3, T4, ?_, ?_, T7⟩
  · intro i hi
    by_cases z : i = b
    · subst z
      rcases T5 i hi with h | h
      · exact absurd h hk
      · exact Or.inr ⟨h.1, s, s1, s2, pk_us⟩
    · rw [pk_un z]; exact T5 i hi
  · intro i hi
    obtain ⟨t1, t2, t3, t4, t5⟩ := T6 i hi
    refine ⟨t1, t2, t3, fun h => ?_, fun h => ?_⟩
    · have z : i ≠ b := fun e => hk (by rw [← e]; exact h)
      rw [pk_un z]; exact t4 h
    · obtain ⟨u1, u2, u3⟩ := t5 h
      refine ⟨u1, ?_, u3⟩
      by_cases z : i = b
      · subst z; rw [pk_us, pk_us]
      · rw [pk_un z, pk_un (fun e => z (tr_inj T hi hb e))]; exact u2
theorem rl_m0 {c : Nat} {kd sh : Nat → Int32} {nd en : Nat → Nat} {lw lh lw' lh' : Nat → Int32} {w0 : Nat} (P : ps_P c kd en) (K : la_K c kd sh) (L : la_L c kd nd en lw lh) (L' : la_L c kd nd en lw' lh') (m0 : ∀ a, lw (nd 0) = nI a → a ≤ 24 → a ≤ w0) : ∀ a, lw' (nd 0) = nI a → a ≤ 24 → a ≤ w0 := by
  intro a e
  rw [(la_un P K L L' 0 P.1).1] at e
  exact m0 a e
theorem rl_n0 {c : Nat} {kd sh : Nat → Int32} {nd en : Nat → Nat} {lw lh lw' lh' : Nat → Int32} {w0 : Nat} (P : ps_P c kd en) (K : la_K c kd sh) (L : la_L c kd nd en lw lh) (L' : la_L c kd nd en lw' lh') (m0 : ∀ a, lh (nd 0) = nI a → a ≤ 24 → a ≤ w0) : ∀ a, lh' (nd 0) = nI a → a ≤ 24 → a ≤ w0 := by
  intro a e
  rw [(la_un P K L L' 0 P.1).2] at e
  exact m0 a e
theorem rl_ex {x : Int32} {w0 : Nat} (h : ∃ a, x = nI a ∧ a ≤ w0) (hw : w0 ≤ 24) : ∀ a, x = nI a → a ≤ 24 → a ≤ w0 := by
  obtain ⟨b, e, hb⟩ := h
  intro a e' ha
  rw [e, nI_eq (by omega) (by omega)] at e'
  omega
end
section
theorem cl_seg {c : Nat} {kd : Nat → Int32} {en : Nat → Nat} {u p s : Nat} (F : cl_F c kd en u p s) : (∀ t, t < u → cl_r u p t = t) ∧ (∀ x, s ≤ x → x < en s → cl_r u p (u + (x - s)) = x) ∧ (∀ x, en u ≤ x → cl_r u p (x - 2) = x) ∧ u + (en s - s) = en u - 2 ∧ s < en s ∧ en s ≤ c := by
  obtain ⟨P, f1, f2, f3, f4, f5, f6, f7, f8, f9, f10⟩ := F
  have es := P.2.2 s f5
  have e1 := es.1
  have e2 := es.2.1
  rcases f7 with ⟨g1, g2, g3, g4, g5⟩ | ⟨g1, g2, g3, g4⟩
  · refine ⟨?_, ?_, ?_, by omega, e1, e2⟩
    · intro t ht; unfold cl_r; rw [if_pos ht]
    · intro x h1 h2; unfold cl_r; rw [if_neg (by omega), if_neg (by omega)]; omega
    · intro x h1; unfold cl_r; rw [if_neg (by omega), if_neg (by omega)]; omega
  · have e3 : en s = p := by rw [g2]; exact g1.symm
    refine ⟨?_, ?_, ?_, by omega, e1, e2⟩
    · intro t ht; unfold cl_r; rw [if_pos ht]
    · intro x h1 h2; unfold cl_r; rw [if_neg (by omega), if_pos (by omega)]; omega
    · intro x h1; unfold cl_r; rw [if_neg (by omega), if_neg (by omega)]; omega
/-- the leaf that comes next round the list -/
def fn_N (c : Nat) (kd : Nat → Int32) (p n : Nat) : Prop := n < c ∧ kd n = 0 ∧ ((p < n ∧ ∀ j, p < j → j < n → kd j ≠ 0) ∨ ((∀ j, p < j → j < c → kd j ≠ 0) ∧ ∀ j, j < n → kd j ≠ 0))
theorem fn_fl {c : Nat} {kd : Nat → Int32} {en : Nat → Nat} (P : ps_P c kd en) {j : Nat} (hj : j < c) : ∃ d, j + d < c ∧ kd (j + d) = 0 ∧ ∀ t, t < d → kd (j + t) ≠ 0 := by
  obtain ⟨d, h1, h2, h3⟩ := ps_fl P j hj
  have := (P.2.2 j hj).2.1
  exact ⟨d, by omega, h2, h3⟩
theorem fn_a {c : Nat} {kd : Nat → Int32} {p d : Nat} (h1 : p + 1 + d < c) (h2 : kd (p + 1 + d) = 0) (h3 : ∀ t, t < d → kd (p + 1 + t) ≠ 0) : fn_N c kd p (p + 1 + d) := by
  refine ⟨h1, h2, Or.inl ⟨by omega, ?_⟩⟩
  intro j a b
  have := h3 (j - (p + 1)) (by omega)
  rw [show p + 1 + (j - (p + 1)) = j by omega] at this
  exact this
theorem fn_b {c : Nat} {kd : Nat → Int32} {p d : Nat} (hp : p + 1 = c) (h1 : d < c) (h2 : kd d = 0) (h3 : ∀ t, t < d → kd t ≠ 0) : fn_N c kd p d := ⟨h1, h2, Or.inr ⟨fun j a b => by omega, h3⟩⟩
theorem fn_un {c : Nat} {kd : Nat → Int32} {p n m : Nat} (hn : fn_N c kd p n) (hm : fn_N c kd p m) : n = m := by
  obtain ⟨n1, n2, n3⟩ := hn
  obtain ⟨m1, m2, m3⟩ := hm
  rcases n3 with ⟨a1, a2⟩ | ⟨a1, a2⟩ <;> rcases m3 with ⟨b1, b2⟩ | ⟨b1, b2⟩
  · rcases Nat.lt_trichotomy n m with h | h | h
    · exact absurd n2 (b2 n a1 h)
    · exact h
    · exact absurd m2 (a2 m b1 h)
  · exact absurd n2 (b1 n a1 n1)
  · exact absurd m2 (a1 m b1 m1)
  · rcases Nat.lt_trichotomy n m with h | h | h
    · exact absurd n2 (b2 n h)
    · exact h
    · exact absurd m2 (a2 m h)
end
section
theorem bf_p1 {c k i : Nat} {kd sh : Nat → Int32} {nd en o : Nat → Nat} {lw lh rx ry rw rh : Nat → Int32} {W0 H0 v : Int32} (P : ps_P c kd en) (ND : ∀ a b, a < c → b < c → nd a = nd b → a = b) (O : bf_O c kd en k o) (hi : i < k)
    (R : bf_R c k i kd sh nd en o lw lh rx ry rw rh W0 H0) (z : kd (o i) = 1) (hv : v = la_v (rw (nd (o i))) (sh (o i)) (lw (nd (o i + 1))) (lw (nd (en (o i + 1))))) :
    bf_R c k (i + 1) kd sh nd en o lw lh (upd (upd rx (nd (o i + 1)) (rx (nd (o i)))) (nd (en (o i + 1))) (rx (nd (o i)) + v + 1)) (upd (upd ry (nd (o i + 1)) (ry (nd (o i)))) (nd (en (o i + 1))) (ry (nd (o i)))) (upd (upd rw (nd (o i + 1)) v) (nd (en (o i + 1))) (rw (nd (o i)) - v - 1)) (upd (upd rh (nd (o i + 1)) (rh (nd (o i)))) (nd (en (o i + 1))) (rh (nd (o i)))) W0 H0 := by
  have oi := O.2.2.2.1 i hi
  have z0 := ge_10 z
  obtain ⟨a1, a2, a3, a4, a5, a6⟩ := ps_nd P oi z0
  have n12 : nd (o i + 1) ≠ nd (en (o i + 1)) := fun e => by have := ND _ _ a5 a6 e; omega
  have n01 : nd (o i) ≠ nd (o i + 1) := fun e => by have := ND _ _ oi a5 e; omega
  have n02 : nd (o i) ≠ nd (en (o i + 1)) := fun e => by have := ND _ _ oi a6 e; omega
  refine bf_R1 P ND O hi R z0 (fun n h1 h2 => ⟨by rw [pk_un h2, pk_un h1], by rw [pk_un h2, pk_un h1], by rw [pk_un h2, pk_un h1], by rw [pk_un h2, pk_un h1]⟩) ⟨fun _ => ?_, fun y => (ge_12 z y).elim⟩
  have e0 : ∀ (f : Nat → Int32) (x y : Int32), upd (upd f (nd (o i + 1)) x) (nd (en (o i + 1))) y (nd (o i)) = f (nd (o i)) := fun f x y => by rw [pk_un n02, pk_un n01]
  have e1 : ∀ (f : Nat → Int32) (x y : Int32), upd (upd f (nd (o i + 1)) x) (nd (en (o i + 1))) y (nd (o i + 1)) = x := fun f x y => by rw [pk_un n12, pk_us]
  have e2 : ∀ (f : Nat → Int32) (x y : Int32), upd (upd f (nd (o i + 1)) x) (nd (en (o i + 1))) y (nd (en (o i + 1))) = y := fun f x y => pk_us
  rw [e0, e0, e0, e0, e1, e1, e1, e1, e2, e2, e2, e2, ← hv]
  exact ⟨rfl, rfl, rfl, rfl, rfl, rfl, rfl, rfl⟩
theorem bf_p2 {c k i : Nat} {kd sh : Nat → Int32} {nd en o : Nat → Nat} {lw lh rx ry rw rh : Nat → Int32} {W0 H0 v : Int32} (P : ps_P c kd en) (ND : ∀ a b, a < c → b < c → nd a = nd b → a = b) (O : bf_O c kd en k o) (hi : i < k)
    (R : bf_R c k i kd sh nd en o lw lh rx ry rw rh W0 H0) (z : kd (o i) = 2) (hv : v = la_v (rh (nd (o i))) (sh (o i)) (lh (nd (o i + 1))) (lh (nd (en (o i + 1))))) :
    bf_R c k (i + 1) kd sh nd en o lw lh (upd (upd rx (nd (o i + 1)) (rx (nd (o i)))) (nd (en (o i + 1))) (rx (nd (o i)))) (upd (upd ry (nd (o i + 1)) (ry (nd (o i)))) (nd (en (o i + 1))) (ry (nd (o i)) + v + 1)) (upd (upd rw (nd (o i + 1)) (rw (nd (o i)))) (nd (en (o i + 1))) (rw (nd (o i)))) (upd (upd rh (nd (o i + 1)) v) (nd (en (o i + 1))) (rh (nd (o i)) - v - 1)) W0 H0 := by
  have oi := O.2.2.2.1 i hi
  have z0 := ge_20 z
  obtain ⟨a1, a2, a3, a4, a5, a6⟩ := ps_nd P oi z0
  have n12 : nd (o i + 1) ≠ nd (en (o i + 1)) := fun e => by have := ND _ _ a5 a6 e; omega
  have n01 : nd (o i) ≠ nd (o i + 1) := fun e => by have := ND _ _ oi a5 e; omega
  have n02 : nd (o i) ≠ nd (en (o i + 1)) := fun e => by have := ND _ _ oi a6 e; omega
  refine bf_R1 P ND O hi R z0 (fun n h1 h2 => ⟨by rw [pk_un h2, pk_un h1], by rw [pk_un h2, pk_un h1], by rw [pk_un h2, pk_un h1], by rw [pk_un h2, pk_un h1]⟩) ⟨fun y => (ge_12 y z).elim, fun _ => ?_⟩
  have e0 : ∀ (f : Nat → Int32) (x y : Int32), upd (upd f (nd (o i + 1)) x) (nd (en (o i + 1))) y (nd (o i)) = f (nd (o i)) := fun f x y => by rw [pk_un n02, pk_un n01]
  have e1 : ∀ (f : Nat → Int32) (x y : Int32), upd (upd f (nd (o i + 1)) x) (nd (en (o i + 1))) y (nd (o i + 1)) = x := fun f x y => by rw [pk_un n12, pk_us]
  have e2 : ∀ (f : Nat → Int32) (x y : Int32), upd (upd f (nd (o i + 1)) x) (nd (en (o i + 1))) y (nd (en (o i + 1))) = y := fun f x y => pk_us
  rw [e0, e0, e0, e0, e1, e1, e1, e1, e2, e2, e2, e2, ← hv]
  exact ⟨rfl, rfl, rfl, rfl, rfl, rfl, rfl, rfl⟩
end
section
theorem xw_smaller {post : Int32 → Prop} {a b : Int32} (h : post (la_mn a b)) : wpX_smaller post () a b := by
  unfold wpX_smaller
  unfold la_mn at h
  exact ⟨fun z => by rw [if_pos z] at h; exact h, fun z => by rw [if_neg z] at h; exact h⟩
theorem xw_larger {post : Int32 → Prop} {a b : Int32} (h : post (la_mx a b)) : wpX_larger post () a b := by
  unfold wpX_larger
  unfold la_mx at h
  exact ⟨fun z => by rw [if_pos z] at h; exact h, fun z => by rw [if_neg z] at h; exact h⟩
/-- a value held between two bounds -/
def la_cl (x a b : Int32) : Int32 := if a ≤ x then la_mn x b else a
theorem xw_clamp {post : Int32 → Prop} {x a b : Int32} (h : post (la_cl x a b)) : wpX_clamp post () x a b := by
  unfold wpX_clamp
  unfold la_cl at h
  exact ⟨fun z => by rw [if_pos z] at h; exact xw_smaller h, fun z => by rw [if_neg z] at h; exact h⟩
theorem la_clN (x : Int32) {a b : Nat} (h : a ≤ b) (hb : b < 2 ^ 31) : ∃ v, la_cl x (nI a) (nI b) = nI v ∧ a ≤ v ∧ v ≤ b := by
  unfold la_cl
  by_cases z : nI a ≤ x
  · rw [if_pos z]
    have n : ¬ x < 0 := fun y => by
      have q := nI_pos' (n := a) (by omega)
      exact Int32.lt_irrefl (Int32.lt_of_le_of_lt z (Int32.lt_of_lt_of_le y q))
    obtain ⟨j, hj, e⟩ := nI_of n
    subst e
    rw [nI_leI (by omega) hj] at z
    rw [la_mnN hj hb]
    refine ⟨_, rfl, ?_, ?_⟩ <;> split <;> omega
  · rw [if_neg z]
    exact ⟨a, rfl, by omega, h⟩
theorem xc_i (g r c : Nat) : nI g * 288 + nI r * 24 + nI c = nI (g * 288 + r * 24 + c) := by
  rw [show (288 : Int32) = nI 288 from rfl, show (24 : Int32) = nI 24 from rfl, pk_mul, pk_mul, nI_add, nI_add]
theorem xw_ci {post : Int32 → Prop} {g r c : Nat} (h : post (nI (g * 288 + r * 24 + c))) : wpX_cellIndex post () (nI g) (nI r) (nI c) := by
  unfold wpX_cellIndex
  rw [xc_i]
  exact h
section XC
variable {f_hostWidth f_hostHeight f_root f_focusedPane f_liveCount : Int32} {a_parent a_first a_second a_orientation a_share a_leastWidth a_leastHeight a_rectX a_rectY a_rectW a_rectH a_order a_live a_screenWidth a_screenHeight a_cursorRow a_cursorCol a_regionTop a_regionBottom a_parserMode a_paramOne a_paramTwo a_paramIndex a_cells : Nat → Int32}
theorem xw_blank13 {post : St2 → Prop} {J : _} {g r c0 c1 : Nat} {x3 x4 : Int32} {S S' : Nat → Prop} {a : Nat → Int32} (hg : g < 8) (hr : r < 12) (hc1 : c1 ≤ 24) (hc0 : c0 ≤ 24) (hS : ∀ j, S' j ↔ S j ∨ (g * 288 + r * 24 + c0 ≤ j ∧ j < g * 288 + r * 24 + c1))
    (K : J (nI (r + 1)) a_parent a_first a_second a_orientation a_share a_leastWidth a_leastHeight a_rectX a_rectY a_rectW a_rectH a_order a_live a_screenWidth a_screenHeight a_cursorRow a_cursorCol a_regionTop a_regionBottom a_parserMode a_paramOne a_paramTwo a_paramIndex (ce_w S' a)) : ∃ n, wX_blankCells_13 post J (nI g) x3 x4 (nI c1) (nI r) f_hostWidth f_hostHeight f_root f_focusedPane f_liveCount n (nI c0) a_parent a_first a_second a_orientation a_share a_leastWidth a_leastHeight a_rectX a_rectY a_rectW a_rectH a_order a_live a_screenWidth a_screenHeight a_cursorRow a_cursorCol a_regionTop a_regionBottom a_parserMode a_paramOne a_paramTwo a_paramIndex (ce_w S a) := by
  by_cases h : c0 ≤ c1
  · refine pk_loop (fun n i s => wX_blankCells_13 post J (nI g) x3 x4 (nI c1) (nI r) f_hostWidth f_hostHeight f_root f_focusedPane f_liveCount n (nI i) a_parent a_first a_second a_orientation a_share a_leastWidth a_leastHeight a_rectX a_rectY a_rectW a_rectH a_order a_live a_screenWidth a_screenHeight a_cursorRow a_cursorCol a_regionTop a_regionBottom a_parserMode a_paramOne a_paramTwo a_paramIndex s)
      (fun i s => c0 ≤ i ∧ s = ce_w (fun j => S j ∨ (g * 288 + r * 24 + c0 ≤ j ∧ j < g * 288 + r * 24 + i)) a) c1 c0 _ h ?_ ?_ ?_
    · exact ⟨Nat.le_refl _, ce_we (fun j => ce_g0 (Nat.le_refl _))⟩
    · intro n s hs
      refine br_t (nI_le (Nat.le_refl _) (by omega)) (nm_r (nI_1 r) ?_)
      rw [hs.2, ce_we (R := S') (fun j => (hS j).symm)]
      exact K
    · intro n i s hi hs k
      refine br_f (nI_ge hi (by omega)) (xw_ci ⟨vp_in_nI (by omega) (by omega), nm_r (e' := ce_w (fun j => S j ∨ (g * 288 + r * 24 + c0 ≤ j ∧ j < g * 288 + r * 24 + (i + 1))) a) ?_ (nm_r (nI_1 i) (k _ ⟨by omega, rfl⟩))⟩)
      rw [nI_clamp (by omega), hs.2]
      exact ce_wu (fun j => ce_g1 (lo := g * 288 + r * 24 + c0) (hi := g * 288 + r * 24 + i) (by omega))
  · refine ⟨1, br_t (nI_le (by omega) (by omega)) (nm_r (nI_1 r) ?_)⟩
    rw [ce_we (S := S) (R := S') (fun j => (ce_g0 (by omega)).trans (hS j).symm)]
    exact K
theorem xw_blank {post : St2 → Prop} {g r0 c0 r1 c1 : Nat} (hg : g < 8) (h01 : r0 ≤ r1) (hr1 : r1 ≤ 12) (hc1 : c1 ≤ 24) (hc0 : c0 ≤ 24) (K : post (f_hostWidth, f_hostHeight, f_root, f_focusedPane, f_liveCount, a_parent, a_first, a_second, a_orientation, a_share, a_leastWidth, a_leastHeight, a_rectX, a_rectY, a_rectW, a_rectH, a_order, a_live, a_screenWidth, a_screenHeight, a_cursorRow, a_cursorCol, a_regionTop, a_regionBottom, a_parserMode, a_paramOne, a_paramTwo, a_paramIndex, ce_w (ce_q (g * 288) r0 c0 r1 c1) a_cells)) : wpX_blankCells post (f_hostWidth, f_hostHeight, f_root, f_focusedPane, f_liveCount, a_parent, a_first, a_second, a_orientation, a_share, a_leastWidth, a_leastHeight, a_rectX, a_rectY, a_rectW, a_rectH, a_order, a_live, a_screenWidth, a_screenHeight, a_cursorRow, a_cursorCol, a_regionTop, a_regionBottom, a_parserMode, a_paramOne, a_paramTwo, a_paramIndex, a_cells) (nI g) (nI r0) (nI c0) (nI r1) (nI c1) := by
  refine pk_loop (fun n i s => wX_blankCells_3 post (nI g) (nI c0) (nI r1) (nI c1) f_hostWidth f_hostHeight f_root f_focusedPane f_liveCount n (nI i) a_parent a_first a_second a_orientation a_share a_leastWidth a_leastHeight a_rectX a_rectY a_rectW a_rectH a_order a_live a_screenWidth a_screenHeight a_cursorRow a_cursorCol a_regionTop a_regionBottom a_parserMode a_paramOne a_paramTwo a_paramIndex s)
    (fun i s => r0 ≤ i ∧ s = ce_w (ce_q (g * 288) r0 c0 i c1) a_cells) r1 r0 _ h01 ?_ ?_ ?_
  · refine ⟨Nat.le_refl _, (ce_w0 (fun j z => ?_)).symm⟩
    obtain ⟨z1, z2, z3, z4, z5⟩ := z
    omega
  · intro n s hs
    refine br_t (nI_le (Nat.le_refl _) (by omega)) ?_
    rw [hs.2]
    exact K
  · intro n i s hi hs k
    obtain ⟨h1, h2⟩ := hs
    subst h2
    exact br_f (nI_ge hi (by omega)) (xw_blank13 hg (by omega) hc1 hc0 (fun j => ce_g2 hc1 h1) (k _ ⟨by omega, rfl⟩))
theorem xw_scr79 {post : St2 → Prop} {J : _} {l t : Nat} {x2 x4 : Int32} {a : Nat → Int32} (hl : l + 24 ≤ 2304)
    (K : J (nI (t + 1)) a_parent a_first a_second a_orientation a_share a_leastWidth a_leastHeight a_rectX a_rectY a_rectW a_rectH a_order a_live a_screenWidth a_screenHeight a_cursorRow a_cursorCol a_regionTop a_regionBottom a_parserMode a_paramOne a_paramTwo a_paramIndex (ce_w (fun j => l ≤ j ∧ j < l + 24) a)) : ∃ n, wX_scroll_79 post J x2 x4 (nI l) (nI t) f_hostWidth f_hostHeight f_root f_focusedPane f_liveCount n (nI l) a_parent a_first a_second a_orientation a_share a_leastWidth a_leastHeight a_rectX a_rectY a_rectW a_rectH a_order a_live a_screenWidth a_screenHeight a_cursorRow a_cursorCol a_regionTop a_regionBottom a_parserMode a_paramOne a_paramTwo a_paramIndex a := by
  have e24 : nI l + 24 = nI (l + 24) := nI_add l 24
  refine pk_loop (fun n i s => wX_scroll_79 post J x2 x4 (nI l) (nI t) f_hostWidth f_hostHeight f_root f_focusedPane f_liveCount n (nI i) a_parent a_first a_second a_orientation a_share a_leastWidth a_leastHeight a_rectX a_rectY a_rectW a_rectH a_order a_live a_screenWidth a_screenHeight a_cursorRow a_cursorCol a_regionTop a_regionBottom a_parserMode a_paramOne a_paramTwo a_paramIndex s)
    (fun i s => l ≤ i ∧ s = ce_w (fun j => l ≤ j ∧ j < i) a) (l + 24) l _ (by omega) ?_ ?_ ?_
  · exact ⟨Nat.le_refl _, (ce_w0 (fun j z => by omega)).symm⟩
  · intro n s hs
    refine br_t (by rw [e24]; exact nI_le (Nat.le_refl _) (by omega)) (nm_r (nI_1 t) ?_)
    rw [hs.2]
    exact K
  · intro n i s hi hs k
    refine br_f (by rw [e24]; exact nI_ge hi (by omega)) ⟨vp_in_nI (by omega) (by omega), nm_r (e' := ce_w (fun j => l ≤ j ∧ j < i + 1) a) ?_ (nm_r (nI_1 i) (k _ ⟨by omega, rfl⟩))⟩
    rw [nI_clamp (by omega), hs.2]
    exact ce_wu (fun j => ce_g3 (hi := i) hs.1)
theorem xw_scr45 {post : St2 → Prop} {J : _} {s0 l t : Nat} {x2 : Int32} {a : Nat → Int32} (hs0 : s0 ≤ l) (hl : l + 24 ≤ 2304) (ch : ∀ j, s0 ≤ j → j < l + 24 → ∃ n, n < 65536 ∧ a j = nI n)
    (K : J (nI (t + 1)) a_parent a_first a_second a_orientation a_share a_leastWidth a_leastHeight a_rectX a_rectY a_rectW a_rectH a_order a_live a_screenWidth a_screenHeight a_cursorRow a_cursorCol a_regionTop a_regionBottom a_parserMode a_paramOne a_paramTwo a_paramIndex (ce_c s0 l a)) : ∃ n, wX_scroll_45 post J x2 (nI s0) (nI l) (nI t) f_hostWidth f_hostHeight f_root f_focusedPane f_liveCount n (nI s0) a_parent a_first a_second a_orientation a_share a_leastWidth a_leastHeight a_rectX a_rectY a_rectW a_rectH a_order a_live a_screenWidth a_screenHeight a_cursorRow a_cursorCol a_regionTop a_regionBottom a_parserMode a_paramOne a_paramTwo a_paramIndex a := by
  refine pk_loop (fun n i s => wX_scroll_45 post J x2 (nI s0) (nI l) (nI t) f_hostWidth f_hostHeight f_root f_focusedPane f_liveCount n (nI i) a_parent a_first a_second a_orientation a_share a_leastWidth a_leastHeight a_rectX a_rectY a_rectW a_rectH a_order a_live a_screenWidth a_screenHeight a_cursorRow a_cursorCol a_regionTop a_regionBottom a_parserMode a_paramOne a_paramTwo a_paramIndex s)
    (fun i s => s0 ≤ i ∧ s = ce_m a s0 i) l s0 _ hs0 ?_ ?_ ?_
  · exact ⟨Nat.le_refl _, ce_m0.symm⟩
  · intro n s hs
    refine br_t (nI_le (Nat.le_refl _) (by omega)) ?_
    rw [hs.2]
    exact xw_scr79 hl K
  · intro n i s hi hs k
    have e24 : nI i + 24 = nI (i + 24) := nI_add i 24
    refine br_f (nI_ge hi (by omega)) ⟨by rw [e24]; exact vp_in_nI (by omega) (by omega), vp_in_nI (by omega) (by omega), nm_r (e' := ce_m a s0 (i + 1)) ?_ (nm_r (nI_1 i) (k _ ⟨by omega, rfl⟩))⟩
    obtain ⟨n, hn, en⟩ := ch (i + 24) (by omega) (by omega)
    have e : ce_m a s0 i (i + 24) = a (i + 24) := by unfold ce_m; rw [if_neg (by omega)]
    rw [e24, nI_clamp (by omega), nI_clamp (by omega), hs.2, ← ce_mu hs.1, e, en, nr_c hn]
theorem xw_scroll {post : St2 → Prop} {g t b m : Nat} (hg : g < 8) (hT : a_regionTop g = nI t) (hB : a_regionBottom g = nI b) (htb : t ≤ b) (hb : b < 12) (hm : m < 2 ^ 31) (H : ce_H (g * 288) a_cells)
    (K : post (f_hostWidth, f_hostHeight, f_root, f_focusedPane, f_liveCount, a_parent, a_first, a_second, a_orientation, a_share, a_leastWidth, a_leastHeight, a_rectX, a_rectY, a_rectW, a_rectH, a_order, a_live, a_screenWidth, a_screenHeight, a_cursorRow, a_cursorCol, a_regionTop, a_regionBottom, a_parserMode, a_paramOne, a_paramTwo, a_paramIndex, ce_n (g * 288 + t * 24) (g * 288 + b * 24) m a_cells)) : wpX_scroll post (f_hostWidth, f_hostHeight, f_root, f_focusedPane, f_liveCount, a_parent, a_first, a_second, a_orientation, a_share, a_leastWidth, a_leastHeight, a_rectX, a_rectY, a_rectW, a_rectH, a_order, a_live, a_screenWidth, a_screenHeight, a_cursorRow, a_cursorCol, a_regionTop, a_regionBottom, a_parserMode, a_paramOne, a_paramTwo, a_paramIndex, a_cells) (nI g) (nI m) := by
  have e1 : nI g * 288 = nI (g * 288) := pk_mul g 288
  have e2 : nI (g * 288) + nI t * 24 = nI (g * 288 + t * 24) := by rw [show (24 : Int32) = nI 24 from rfl, pk_mul, nI_add]
  have e3 : nI (g * 288) + nI b * 24 = nI (g * 288 + b * 24) := by rw [show (24 : Int32) = nI 24 from rfl, pk_mul, nI_add]
  refine nm_r e1 ⟨vi_8 hg, nm_r (e' := nI (g * 288 + t * 24)) (by rw [cg_8 hg, hT]; exact e2) ⟨vi_8 hg, nm_r (e' := nI (g * 288 + b * 24)) (by rw [cg_8 hg, hB]; exact e3) ?_⟩⟩
  refine pk_loop (fun n i s => wX_scroll_35 post (nI m) (nI (g * 288 + t * 24)) (nI (g * 288 + b * 24)) f_hostWidth f_hostHeight f_root f_focusedPane f_liveCount n (nI i) a_parent a_first a_second a_orientation a_share a_leastWidth a_leastHeight a_rectX a_rectY a_rectW a_rectH a_order a_live a_screenWidth a_screenHeight a_cursorRow a_cursorCol a_regionTop a_regionBottom a_parserMode a_paramOne a_paramTwo a_paramIndex s)
    (fun i s => s = ce_n (g * 288 + t * 24) (g * 288 + b * 24) i a_cells) m 0 _ (Nat.zero_le _) rfl ?_ ?_
  · intro n s hs
    refine br_t (nI_le (Nat.le_refl _) hm) ?_
    rw [hs]
    exact K
  · intro n i s hi hs k
    subst hs
    exact br_f (nI_ge hi hm) (xw_scr45 (by omega) (by omega) (fun j h1 h2 => ce_Hn hb H i j (by omega) (by omega)) (k _ rfl))
theorem xw_lineFeed {post : St2 → Prop} {g t b r h : Nat} (hg : g < 8) (hT : a_regionTop g = nI t) (hB : a_regionBottom g = nI b) (htb : t ≤ b) (hb : b < 12) (hR : a_cursorRow g = nI r) (hr : r < h) (hh : h ≤ 12) (hS : a_screenHeight g = nI h) (H : ce_H (g * 288) a_cells)
    (k1 : r = b → post (f_hostWidth, f_hostHeight, f_root, f_focusedPane, f_liveCount, a_parent, a_first, a_second, a_orientation, a_share, a_leastWidth, a_leastHeight, a_rectX, a_rectY, a_rectW, a_rectH, a_order, a_live, a_screenWidth, a_screenHeight, a_cursorRow, a_cursorCol, a_regionTop, a_regionBottom, a_parserMode, a_paramOne, a_paramTwo, a_paramIndex, ce_n (g * 288 + t * 24) (g * 288 + b * 24) 1 a_cells)) (k2 : r ≠ b → h - 1 ≤ r → post (f_hostWidth, f_hostHeight, f_root, f_focusedPane, f_liveCount, a_parent, a_first, a_second, a_orientation, a_share, a_leastWidth, a_leastHeight, a_rectX, a_rectY, a_rectW, a_rectH, a_order, a_live, a_screenWidth, a_screenHeight, a_cursorRow, a_cursorCol, a_regionTop, a_regionBottom, a_parserMode, a_paramOne, a_paramTwo, a_paramIndex, a_cells)) (k3 : r ≠ b → r < h - 1 → post (f_hostWidth, f_hostHeight, f_root, f_focusedPane, f_liveCount, a_parent, a_first, a_second, a_orientation, a_share, a_leastWidth, a_leastHeight, a_rectX, a_rectY, a_rectW, a_rectH, a_order, a_live, a_screenWidth, a_screenHeight, upd a_cursorRow g (nI (r + 1)), a_cursorCol, a_regionTop, a_regionBottom, a_parserMode, a_paramOne, a_paramTwo, a_paramIndex, a_cells)) : wpX_lineFeed post (f_hostWidth, f_hostHeight, f_root, f_focusedPane, f_liveCount, a_parent, a_first, a_second, a_orientation, a_share, a_leastWidth, a_leastHeight, a_rectX, a_rectY, a_rectW, a_rectH, a_order, a_live, a_screenWidth, a_screenHeight, a_cursorRow, a_cursorCol, a_regionTop, a_regionBottom, a_parserMode, a_paramOne, a_paramTwo, a_paramIndex, a_cells) (nI g) := by
  refine ⟨vi_8 hg, vi_8 hg, ?_⟩
  rw [cg_8 hg, hR, hB]
  refine pk_eq r b (fun z => xw_scroll hg hT hB htb hb (m := 1) (by omega) H (k1 z)) (fun z => ⟨vi_8 hg, vi_8 hg, ?_⟩)
  rw [hS, la_sub1 (by omega)]
  exact pk_le (h - 1) r (fun y => k2 z y) (fun y => ⟨vi_8 hg, vi_8 hg, nm_r (by rw [nI_1]) (k3 z y)⟩)
theorem xw_print {post : St2 → Prop} {g t b r q h w v : Nat} (hg : g < 8) (hT : a_regionTop g = nI t) (hB : a_regionBottom g = nI b) (htb : t ≤ b) (hb : b < 12) (hR : a_cursorRow g = nI r) (hr : r < h) (hh : h ≤ 12) (hS : a_screenHeight g = nI h) (hC : a_cursorCol g = nI q) (hq : q < w) (hw : w ≤ 24) (hW : a_screenWidth g = nI w) (hv : v < 256)
    (H : ce_H (g * 288) (upd a_cells (g * 288 + r * 24 + q) (nI v)))
    (k0 : q + 1 ≠ w → post (f_hostWidth, f_hostHeight, f_root, f_focusedPane, f_liveCount, a_parent, a_first, a_second, a_orientation, a_share, a_leastWidth, a_leastHeight, a_rectX, a_rectY, a_rectW, a_rectH, a_order, a_live, a_screenWidth, a_screenHeight, a_cursorRow, upd a_cursorCol g (nI (q + 1)), a_regionTop, a_regionBottom, a_parserMode, a_paramOne, a_paramTwo, a_paramIndex, upd a_cells (g * 288 + r * 24 + q) (nI v)))
    (k1 : q + 1 = w → r = b → post (f_hostWidth, f_hostHeight, f_root, f_focusedPane, f_liveCount, a_parent, a_first, a_second, a_orientation, a_share, a_leastWidth, a_leastHeight, a_rectX, a_rectY, a_rectW, a_rectH, a_order, a_live, a_screenWidth, a_screenHeight, a_cursorRow, upd (upd a_cursorCol g (nI (q + 1))) g 0, a_regionTop, a_regionBottom, a_parserMode, a_paramOne, a_paramTwo, a_paramIndex, ce_n (g * 288 + t * 24) (g * 288 + b * 24) 1 (upd a_cells (g * 288 + r * 24 + q) (nI v))))
    (k2 : q + 1 = w → r ≠ b → h - 1 ≤ r → post (f_hostWidth, f_hostHeight, f_root, f_focusedPane, f_liveCount, a_parent, a_first, a_second, a_orientation, a_share, a_leastWidth, a_leastHeight, a_rectX, a_rectY, a_rectW, a_rectH, a_order, a_live, a_screenWidth, a_screenHeight, a_cursorRow, upd (upd a_cursorCol g (nI (q + 1))) g 0, a_regionTop, a_regionBottom, a_parserMode, a_paramOne, a_paramTwo, a_paramIndex, upd a_cells (g * 288 + r * 24 + q) (nI v)))
    (k3 : q + 1 = w → r ≠ b → r < h - 1 → post (f_hostWidth, f_hostHeight, f_root, f_focusedPane, f_liveCount, a_parent, a_first, a_second, a_orientation, a_share, a_leastWidth, a_leastHeight, a_rectX, a_rectY, a_rectW, a_rectH, a_order, a_live, a_screenWidth, a_screenHeight, upd a_cursorRow g (nI (r + 1)), upd (upd a_cursorCol g (nI (q + 1))) g 0, a_regionTop, a_regionBottom, a_parserMode, a_paramOne, a_paramTwo, a_paramIndex, upd a_cells (g * 288 + r * 24 + q) (nI v))) : wpX_printChar post (f_hostWidth, f_hostHeight, f_root, f_focusedPane, f_liveCount, a_parent, a_first, a_second, a_orientation, a_share, a_leastWidth, a_leastHeight, a_rectX, a_rectY, a_rectW, a_rectH, a_order, a_live, a_screenWidth, a_screenHeight, a_cursorRow, a_cursorCol, a_regionTop, a_regionBottom, a_parserMode, a_paramOne, a_paramTwo, a_paramIndex, a_cells) (nI g) (nI v) := by
  have ev : ((nI v).toUInt32 % 65536).toInt32 = nI v := by
    rw [pk_char, pk_tn (by omega), Nat.mod_eq_of_lt (by omega)]
  refine ⟨vi_8 hg, vi_8 hg, ?_⟩
  rw [cg_8 hg, hR, hC, ev]
  refine xw_ci ⟨vp_in_nI (by omega) (by omega), nm_r (e' := upd a_cells (g * 288 + r * 24 + q) (nI v)) (by rw [nI_clamp (by omega)]) ⟨vi_8 hg, vi_8 hg, nm_r (e' := upd a_cursorCol g (nI (q + 1))) (by rw [nI_1]) ⟨vi_8 hg, vi_8 hg, ?_⟩⟩⟩
  rw [pk_us, hW]
  refine pk_eq (q + 1) w (fun z => ⟨vi_8 hg, nm_e ?_⟩) (fun z => k0 z)
  exact xw_lineFeed (h := h) hg hT hB htb hb hR hr hh hS H (k1 z) (k2 z) (k3 z)
end XC
end
section
/-- no live pane has this id -/
def pd_D (lv : Nat → Int32) (p : Int32) : Prop := p < 0 ∨ nI 8 ≤ p ∨ ∃ g, g < 8 ∧ p = nI g ∧ lv g = 0
theorem pd_or (lv : Nat → Int32) (p : Int32) : pd_D lv p ∨ ∃ g, g < 8 ∧ p = nI g ∧ lv g ≠ 0 := by
  rcases pk_ix p (n := 8) (by omega) with h | h | ⟨g, hg, e⟩
  · exact Or.inl (Or.inl h)
  · exact Or.inl (Or.inr (Or.inl h))
  · by_cases z : lv g = 0
    · exact Or.inl (Or.inr (Or.inr ⟨g, hg, e, z⟩))
    · exact Or.inr ⟨g, hg, e, z⟩
theorem pd_br {lv : Nat → Int32} {p : Int32} {A : Prop} (D : pd_D lv p) (K : A) {B : Prop} : (p < 0 → A) ∧ (¬ p < 0 → ((8 ≤ p → A) ∧ (¬ 8 ≤ p → (vp_in p 8 ∧ ((lv p.toNatClampNeg = 0 → A) ∧ (¬ lv p.toNatClampNeg = 0 → B)))))) := by
  refine ⟨fun _ => K, fun h0 => ⟨fun _ => K, fun h8 => ?_⟩⟩
  rcases D with h | h | ⟨g, hg, e, z⟩
  · exact absurd h h0
  · exact absurd h h8
  · subst e
    exact ⟨vi_8 hg, fun _ => K, fun y => absurd (by rw [cg_8 hg]; exact z) y⟩
theorem pd_bl {lv : Nat → Int32} {g : Nat} {A B : Prop} (hg : g < 8) (hl : lv g ≠ 0) (K : B) : (nI g < 0 → A) ∧ (¬ nI g < 0 → ((8 ≤ nI g → A) ∧ (¬ 8 ≤ nI g → (vp_in (nI g) 8 ∧ ((lv (nI g).toNatClampNeg = 0 → A) ∧ (¬ lv (nI g).toNatClampNeg = 0 → B)))))) :=
  br_f (nI_pos (by omega)) (br_f (nI_ge (b := 8) hg (by omega)) ⟨vi_8 hg, br_f (by rw [cg_8 hg]; exact hl) K⟩)
section EZ
variable {f_hostWidth f_hostHeight f_root f_focusedPane f_liveCount : Int32} {a_parent a_first a_second a_orientation a_share a_leastWidth a_leastHeight a_rectX a_rectY a_rectW a_rectH a_order a_live a_screenWidth a_screenHeight a_cursorRow a_cursorCol a_regionTop a_regionBottom a_parserMode a_paramOne a_paramTwo a_paramIndex a_cells : Nat → Int32}
theorem xw_dead {post : Int32 → Prop} {p : Int32} (D : pd_D a_live p) (K : post 0) : wpX_isLive post (f_hostWidth, f_hostHeight, f_root, f_focusedPane, f_liveCount, a_parent, a_first, a_second, a_orientation, a_share, a_leastWidth, a_leastHeight, a_rectX, a_rectY, a_rectW, a_rectH, a_order, a_live, a_screenWidth, a_screenHeight, a_cursorRow, a_cursorCol, a_regionTop, a_regionBottom, a_parserMode, a_paramOne, a_paramTwo, a_paramIndex, a_cells) p := pd_br D K
theorem xw_live {post : Int32 → Prop} {g : Nat} (hg : g < 8) (hl : a_live g ≠ 0) (K : post 1) : wpX_isLive post (f_hostWidth, f_hostHeight, f_root, f_focusedPane, f_liveCount, a_parent, a_first, a_second, a_orientation, a_share, a_leastWidth, a_leastHeight, a_rectX, a_rectY, a_rectW, a_rectH, a_order, a_live, a_screenWidth, a_screenHeight, a_cursorRow, a_cursorCol, a_regionTop, a_regionBottom, a_parserMode, a_paramOne, a_paramTwo, a_paramIndex, a_cells) (nI g) := pd_bl hg hl K
end EZ
end
section
section FD
variable {f_hostWidth f_hostHeight f_root f_focusedPane f_liveCount : Int32} {a_parent a_first a_second a_orientation a_share a_leastWidth a_leastHeight a_rectX a_rectY a_rectW a_rectH a_order a_live a_screenWidth a_screenHeight a_cursorRow a_cursorCol a_regionTop a_regionBottom a_parserMode a_paramOne a_paramTwo a_paramIndex a_cells : Nat → Int32}
theorem xw_feed {post : Int32 → St2 → Prop} {g v m : Nat} {p1 : Int32} (hg : g < 8) (hl : a_live g ≠ 0) (e : p1 &&& 255 = nI v) (hM : a_parserMode g = nI m) (hm : m ≤ 2) (k0 : m = 0 → wpX_feedGround (fun u => post 1 u) (f_hostWidth, f_hostHeight, f_root, f_focusedPane, f_liveCount, a_parent, a_first, a_second, a_orientation, a_share, a_leastWidth, a_leastHeight, a_rectX, a_rectY, a_rectW, a_rectH, a_order, a_live, a_screenWidth, a_screenHeight, a_cursorRow, a_cursorCol, a_regionTop, a_regionBottom, a_parserMode, a_paramOne, a_paramTwo, a_paramIndex, a_cells) (nI g) (nI v)) (k1 : m = 1 → wpX_feedEscape (fun u => post 1 u) (f_hostWidth, f_hostHeight, f_root, f_focusedPane, f_liveCount, a_parent, a_first, a_second, a_orientation, a_share, a_leastWidth, a_leastHeight, a_rectX, a_rectY, a_rectW, a_rectH, a_order, a_live, a_screenWidth, a_screenHeight, a_cursorRow, a_cursorCol, a_regionTop, a_regionBottom, a_parserMode, a_paramOne, a_paramTwo, a_paramIndex, a_cells) (nI g) (nI v)) (k2 : m = 2 → wpX_feedSequence (fun u => post 1 u) (f_hostWidth, f_hostHeight, f_root, f_focusedPane, f_liveCount, a_parent, a_first, a_second, a_orientation, a_share, a_leastWidth, a_leastHeight, a_rectX, a_rectY, a_rectW, a_rectH, a_order, a_live, a_screenWidth, a_screenHeight, a_cursorRow, a_cursorCol, a_regionTop, a_regionBottom, a_parserMode, a_paramOne, a_paramTwo, a_paramIndex, a_cells) (nI g) (nI v)) : wpX_feed post (f_hostWidth, f_hostHeight, f_root, f_focusedPane, f_liveCount, a_parent, a_first, a_second, a_orientation, a_share, a_leastWidth, a_leastHeight, a_rectX, a_rectY, a_rectW, a_rectH, a_order, a_live, a_screenWidth, a_screenHeight, a_cursorRow, a_cursorCol, a_regionTop, a_regionBottom, a_parserMode, a_paramOne, a_paramTwo, a_paramIndex, a_cells) (nI g) p1 := by
  unfold wpX_feed
  refine xw_live hg hl (br_f (by decide) (nm_r e ⟨vi_8 hg, ?_⟩))
  rw [cg_8 hg, hM]
  refine pk_eq m 0 (fun z => k0 z) (fun z => ⟨vi_8 hg, ?_⟩)
  exact pk_eq m 1 (fun y => k1 y) (fun y => k2 (by omega))
end FD
end
section
section XL
variable {f_hostWidth f_hostHeight f_root f_focusedPane f_liveCount : Int32} {a_parent a_first a_second a_orientation a_share a_leastWidth a_leastHeight a_rectX a_rectY a_rectW a_rectH a_order a_live a_screenWidth a_screenHeight a_cursorRow a_cursorCol a_regionTop a_regionBottom a_parserMode a_paramOne a_paramTwo a_paramIndex a_cells : Nat → Int32}
variable {c : Nat} {nd en po : Nat → Nat} {kd vl : Nat → Int32}
theorem xw_order {post : Int32 → St2 → Prop} (T : tr_T c nd en po f_root a_parent a_first a_second a_orientation a_share kd vl)
    (K : ∀ k o ord, bf_O c kd en k o → (∀ j, j < k → ord j = nI (nd (o j))) → post (nI k) (f_hostWidth, f_hostHeight, f_root, f_focusedPane, f_liveCount, a_parent, a_first, a_second, a_orientation, a_share, a_leastWidth, a_leastHeight, a_rectX, a_rectY, a_rectW, a_rectH, ord, a_live, a_screenWidth, a_screenHeight, a_cursorRow, a_cursorCol, a_regionTop, a_regionBottom, a_parserMode, a_paramOne, a_paramTwo, a_paramIndex, a_cells)) : wpX_orderNodes post (f_hostWidth, f_hostHeight, f_root, f_focusedPane, f_liveCount, a_parent, a_first, a_second, a_orientation, a_share, a_leastWidth, a_leastHeight, a_rectX, a_rectY, a_rectW, a_rectH, a_order, a_live, a_screenWidth, a_screenHeight, a_cursorRow, a_cursorCol, a_regionTop, a_regionBottom, a_parserMode, a_paramOne, a_paramTwo, a_paramIndex, a_cells) := by
  obtain ⟨P, T2, T3, T4, T5, T6, T7⟩ := id T
  refine nm_e ?_
  refine lp4 (fun n k i (o : Nat → Nat) ord => wX_orderNodes_14 post f_hostWidth f_hostHeight f_root f_focusedPane f_liveCount n (nI k) (nI i) a_parent a_first a_second a_orientation a_share a_leastWidth a_leastHeight a_rectX a_rectY a_rectW a_rectH ord a_live a_screenWidth a_screenHeight a_cursorRow a_cursorCol a_regionTop a_regionBottom a_parserMode a_paramOne a_paramTwo a_paramIndex a_cells)
    (fun k i o ord => bf_I c kd en i k o ∧ ∀ j, j < k → ord j = nI (nd (o j))) (fun k i o ord => 16 - i) ?_ 1 0 (fun _ => 0) _ ⟨bf_0 P, ?_⟩
  · intro n k i o ord hI IH
    obtain ⟨I, hord⟩ := hI
    have ik := I.1
    have kc := I.2.2.1
    by_cases h15 : 15 ≤ i
    · have e : i = k := by omega
      subst e
      exact br_t (nI_le (a := 15) h15 (by omega)) (K _ _ _ (bf_done P I) hord)
    · refine br_f (nI_ge (b := 15) (by omega) (by omega)) ?_
      by_cases hk : k ≤ i
      · have e : i = k := by omega
        subst e
        exact br_t (nI_le (Nat.le_refl _) (by omega)) (K _ _ _ (bf_done P I) hord)
      · have oi := I.2.2.2.2.1 i (by omega)
        obtain ⟨t1, t2, t3, t4, t5⟩ := T6 (o i) oi
        refine br_f (nI_ge (by omega) (by omega)) ⟨vi_15 (by omega), nm_r (e' := nI (nd (o i))) (by rw [cg_15 (by omega)]; exact hord i (by omega)) ⟨vi_15 t1, ?_⟩⟩
        rw [cg_15 t1, t3]
        by_cases z : kd (o i) = 0
        · exact br_t z (nm_r (nI_1 i) (IH _ _ o _ ⟨bf_leaf I (by omega) z, hord⟩ (by omega)))
        · have I' := bf_node P I (by omega) z
          have kc' := I'.2.2.1
          obtain ⟨u1, u2, u3, u4, u5, u6⟩ := t5 z
          have e2 : nI k + 2 = nI (k + 2) := nI_add k 2
          refine br_f z (br_f (by rw [e2]; exact nI_nlt (b := k + 2) (a := 15) (by omega) (by omega)) ⟨vi_15 t1, vi_15 (by omega), nm_r (e' := upd ord k (nI (nd (o i + 1)))) (by rw [cg_15 (by omega), u3]) ⟨vi_15 t1, by rw [nI_1]; exact vi_15 (by omega), nm_r (e' := upd (upd ord k (nI (nd (o i + 1)))) (k + 1) (nI (nd (en (o i + 1))))) (by rw [nI_1, cg_15 (by omega), u4]) (nm_r e2 (nm_r (nI_1 i) (IH _ _ (bf_o o k (o i + 1) (en (o i + 1))) _ ⟨I', ?_⟩ (by omega))))⟩⟩)
          intro j hj
          by_cases y : j < k
          · rw [pk_un (by omega), pk_un (by omega), bf_oo y]; exact hord j y
          · by_cases y2 : j = k
            · subst y2
              rw [pk_un (by omega), pk_us, bf_o0]
            · have y3 : j = k + 1 := by omega
              subst y3
              rw [pk_us, bf_o1]
  · intro j hj
    have e : j = 0 := by omega
    subst e
    rw [pk_us, T3]
theorem xw_meas0 {post : St2 → Prop} {n : Nat} (hn : n < 15) (ho : a_orientation n = 0) (K : post (f_hostWidth, f_hostHeight, f_root, f_focusedPane, f_liveCount, a_parent, a_first, a_second, a_orientation, a_share, upd a_leastWidth n 1, upd a_leastHeight n 1, a_rectX, a_rectY, a_rectW, a_rectH, a_order, a_live, a_screenWidth, a_screenHeight, a_cursorRow, a_cursorCol, a_regionTop, a_regionBottom, a_parserMode, a_paramOne, a_paramTwo, a_paramIndex, a_cells)) : wpX_measureNode post (f_hostWidth, f_hostHeight, f_root, f_focusedPane, f_liveCount, a_parent, a_first, a_second, a_orientation, a_share, a_leastWidth, a_leastHeight, a_rectX, a_rectY, a_rectW, a_rectH, a_order, a_live, a_screenWidth, a_screenHeight, a_cursorRow, a_cursorCol, a_regionTop, a_regionBottom, a_parserMode, a_paramOne, a_paramTwo, a_paramIndex, a_cells) (nI n) := by
  refine ⟨vi_15 hn, nm_e ⟨vi_15 hn, nm_e ⟨vi_15 hn, ?_⟩⟩⟩
  rw [cg_15 hn, ho]
  exact br_f (by decide) ⟨vi_15 hn, br_f (by decide) ⟨vi_15 hn, nm_e ⟨vi_15 hn, nm_e K⟩⟩⟩
theorem xw_meas1 {post : St2 → Prop} {n a b : Nat} (hn : n < 15) (ha : a < 15) (hb : b < 15) (hf : a_first n = nI a) (hs : a_second n = nI b) (ho : a_orientation n = 1) (K : post (f_hostWidth, f_hostHeight, f_root, f_focusedPane, f_liveCount, a_parent, a_first, a_second, a_orientation, a_share, upd a_leastWidth n (a_leastWidth a + 1 + a_leastWidth b), upd a_leastHeight n (la_mx (a_leastHeight a) (a_leastHeight b)), a_rectX, a_rectY, a_rectW, a_rectH, a_order, a_live, a_screenWidth, a_screenHeight, a_cursorRow, a_cursorCol, a_regionTop, a_regionBottom, a_parserMode, a_paramOne, a_paramTwo, a_paramIndex, a_cells)) : wpX_measureNode post (f_hostWidth, f_hostHeight, f_root, f_focusedPane, f_liveCount, a_parent, a_first, a_second, a_orientation, a_share, a_leastWidth, a_leastHeight, a_rectX, a_rectY, a_rectW, a_rectH, a_order, a_live, a_screenWidth, a_screenHeight, a_cursorRow, a_cursorCol, a_regionTop, a_regionBottom, a_parserMode, a_paramOne, a_paramTwo, a_paramIndex, a_cells) (nI n) := by
  refine ⟨vi_15 hn, nm_r (e' := nI a) (by rw [cg_15 hn]; exact hf) ⟨vi_15 hn, nm_r (e' := nI b) (by rw [cg_15 hn]; exact hs) ⟨vi_15 hn, ?_⟩⟩⟩
  rw [cg_15 hn, cg_15 ha, cg_15 hb, ho]
  exact br_t rfl ⟨vi_15 ha, vi_15 hb, vi_15 hn, nm_e ⟨vi_15 ha, vi_15 hb, xw_larger ⟨vi_15 hn, nm_e K⟩⟩⟩
theorem xw_meas2 {post : St2 → Prop} {n a b : Nat} (hn : n < 15) (ha : a < 15) (hb : b < 15) (hf : a_first n = nI a) (hs : a_second n = nI b) (ho : a_orientation n = 2) (K : post (f_hostWidth, f_hostHeight, f_root, f_focusedPane, f_liveCount, a_parent, a_first, a_second, a_orientation, a_share, upd a_leastWidth n (la_mx (a_leastWidth a) (a_leastWidth b)), upd a_leastHeight n (a_leastHeight a + 1 + a_leastHeight b), a_rectX, a_rectY, a_rectW, a_rectH, a_order, a_live, a_screenWidth, a_screenHeight, a_cursorRow, a_cursorCol, a_regionTop, a_regionBottom, a_parserMode, a_paramOne, a_paramTwo, a_paramIndex, a_cells)) : wpX_measureNode post (f_hostWidth, f_hostHeight, f_root, f_focusedPane, f_liveCount, a_parent, a_first, a_second, a_orientation, a_share, a_leastWidth, a_leastHeight, a_rectX, a_rectY, a_rectW, a_rectH, a_order, a_live, a_screenWidth, a_screenHeight, a_cursorRow, a_cursorCol, a_regionTop, a_regionBottom, a_parserMode, a_paramOne, a_paramTwo, a_paramIndex, a_cells) (nI n) := by
  refine ⟨vi_15 hn, nm_r (e' := nI a) (by rw [cg_15 hn]; exact hf) ⟨vi_15 hn, nm_r (e' := nI b) (by rw [cg_15 hn]; exact hs) ⟨vi_15 hn, ?_⟩⟩⟩
  rw [cg_15 hn, cg_15 ha, cg_15 hb, ho]
  exact br_f (by decide) ⟨vi_15 hn, br_t rfl ⟨vi_15 ha, vi_15 hb, xw_larger ⟨vi_15 hn, nm_e ⟨vi_15 ha, vi_15 hb, vi_15 hn, nm_e K⟩⟩⟩⟩
theorem xw_extent {post : Int32 → Prop} {w s a b : Int32} (K : post (la_v w s a b)) : wpX_firstExtent post () w s a b := ⟨by decide, nm_e (xw_larger (xw_smaller K))⟩
theorem xw_pnode {post : St2 → Prop} {n : Nat} {x y w h : Int32} (hn : n < 15) (K : post (f_hostWidth, f_hostHeight, f_root, f_focusedPane, f_liveCount, a_parent, a_first, a_second, a_orientation, a_share, a_leastWidth, a_leastHeight, upd a_rectX n x, upd a_rectY n y, upd a_rectW n w, upd a_rectH n h, a_order, a_live, a_screenWidth, a_screenHeight, a_cursorRow, a_cursorCol, a_regionTop, a_regionBottom, a_parserMode, a_paramOne, a_paramTwo, a_paramIndex, a_cells)) : wpX_placeNode post (f_hostWidth, f_hostHeight, f_root, f_focusedPane, f_liveCount, a_parent, a_first, a_second, a_orientation, a_share, a_leastWidth, a_leastHeight, a_rectX, a_rectY, a_rectW, a_rectH, a_order, a_live, a_screenWidth, a_screenHeight, a_cursorRow, a_cursorCol, a_regionTop, a_regionBottom, a_parserMode, a_paramOne, a_paramTwo, a_paramIndex, a_cells) (nI n) x y w h := by
  have e := cg_15 hn
  exact ⟨vi_15 hn, nm_r (e' := upd a_rectX n x) (by rw [e]) ⟨vi_15 hn, nm_r (e' := upd a_rectY n y) (by rw [e]) ⟨vi_15 hn, nm_r (e' := upd a_rectW n w) (by rw [e]) ⟨vi_15 hn, nm_r (e' := upd a_rectH n h) (by rw [e]) K⟩⟩⟩⟩
theorem xw_place0 {post : St2 → Prop} {n : Nat} (hn : n < 15) (ho : a_orientation n = 0) (K : post (f_hostWidth, f_hostHeight, f_root, f_focusedPane, f_liveCount, a_parent, a_first, a_second, a_orientation, a_share, a_leastWidth, a_leastHeight, a_rectX, a_rectY, a_rectW, a_rectH, a_order, a_live, a_screenWidth, a_screenHeight, a_cursorRow, a_cursorCol, a_regionTop, a_regionBottom, a_parserMode, a_paramOne, a_paramTwo, a_paramIndex, a_cells)) : wpX_placeChildren post (f_hostWidth, f_hostHeight, f_root, f_focusedPane, f_liveCount, a_parent, a_first, a_second, a_orientation, a_share, a_leastWidth, a_leastHeight, a_rectX, a_rectY, a_rectW, a_rectH, a_order, a_live, a_screenWidth, a_screenHeight, a_cursorRow, a_cursorCol, a_regionTop, a_regionBottom, a_parserMode, a_paramOne, a_paramTwo, a_paramIndex, a_cells) (nI n) := by
  refine ⟨vi_15 hn, nm_e ⟨vi_15 hn, nm_e ⟨vi_15 hn, nm_e ⟨vi_15 hn, nm_e ⟨vi_15 hn, nm_e ⟨vi_15 hn, nm_e ⟨vi_15 hn, ?_⟩⟩⟩⟩⟩⟩⟩
  rw [cg_15 hn, ho]
  exact br_f (by decide) ⟨vi_15 hn, br_f (by decide) K⟩
theorem xw_place1 {post : St2 → Prop} {n a b : Nat} (hn : n < 15) (ha : a < 15) (hb : b < 15) (hf : a_first n = nI a) (hs : a_second n = nI b) (ho : a_orientation n = 1) {v : Int32} (hv : v = la_v (a_rectW n) (a_share n) (a_leastWidth a) (a_leastWidth b))
    (K : post (f_hostWidth, f_hostHeight, f_root, f_focusedPane, f_liveCount, a_parent, a_first, a_second, a_orientation, a_share, a_leastWidth, a_leastHeight, upd (upd a_rectX a (a_rectX n)) b (a_rectX n + v + 1), upd (upd a_rectY a (a_rectY n)) b (a_rectY n), upd (upd a_rectW a v) b (a_rectW n - v - 1), upd (upd a_rectH a (a_rectH n)) b (a_rectH n), a_order, a_live, a_screenWidth, a_screenHeight, a_cursorRow, a_cursorCol, a_regionTop, a_regionBottom, a_parserMode, a_paramOne, a_paramTwo, a_paramIndex, a_cells)) : wpX_placeChildren post (f_hostWidth, f_hostHeight, f_root, f_focusedPane, f_liveCount, a_parent, a_first, a_second, a_orientation, a_share, a_leastWidth, a_leastHeight, a_rectX, a_rectY, a_rectW, a_rectH, a_order, a_live, a_screenWidth, a_screenHeight, a_cursorRow, a_cursorCol, a_regionTop, a_regionBottom, a_parserMode, a_paramOne, a_paramTwo, a_paramIndex, a_cells) (nI n) := by
  subst hv
  refine ⟨vi_15 hn, nm_r (e' := nI a) (by rw [cg_15 hn]; exact hf) ⟨vi_15 hn, nm_r (e' := nI b) (by rw [cg_15 hn]; exact hs) ⟨vi_15 hn, nm_e ⟨vi_15 hn, nm_e ⟨vi_15 hn, nm_e ⟨vi_15 hn, nm_e ⟨vi_15 hn, ?_⟩⟩⟩⟩⟩⟩⟩
  rw [cg_15 hn, cg_15 ha, cg_15 hb, ho]
  exact br_t rfl ⟨vi_15 hn, vi_15 ha, vi_15 hb, xw_extent (xw_pnode ha (xw_pnode hb K))⟩
theorem xw_place2 {post : St2 → Prop} {n a b : Nat} (hn : n < 15) (ha : a < 15) (hb : b < 15) (hf : a_first n = nI a) (hs : a_second n = nI b) (ho : a_orientation n = 2) {v : Int32} (hv : v = la_v (a_rectH n) (a_share n) (a_leastHeight a) (a_leastHeight b))
    (K : post (f_hostWidth, f_hostHeight, f_root, f_focusedPane, f_liveCount, a_parent, a_first, a_second, a_orientation, a_share, a_leastWidth, a_leastHeight, upd (upd a_rectX a (a_rectX n)) b (a_rectX n), upd (upd a_rectY a (a_rectY n)) b (a_rectY n + v + 1), upd (upd a_rectW a (a_rectW n)) b (a_rectW n), upd (upd a_rectH a v) b (a_rectH n - v - 1), a_order, a_live, a_screenWidth, a_screenHeight, a_cursorRow, a_cursorCol, a_regionTop, a_regionBottom, a_parserMode, a_paramOne, a_paramTwo, a_paramIndex, a_cells)) : wpX_placeChildren post (f_hostWidth, f_hostHeight, f_root, f_focusedPane, f_liveCount, a_parent, a_first, a_second, a_orientation, a_share, a_leastWidth, a_leastHeight, a_rectX, a_rectY, a_rectW, a_rectH, a_order, a_live, a_screenWidth, a_screenHeight, a_cursorRow, a_cursorCol, a_regionTop, a_regionBottom, a_parserMode, a_paramOne, a_paramTwo, a_paramIndex, a_cells) (nI n) := by
  subst hv
  refine ⟨vi_15 hn, nm_r (e' := nI a) (by rw [cg_15 hn]; exact hf) ⟨vi_15 hn, nm_r (e' := nI b) (by rw [cg_15 hn]; exact hs) ⟨vi_15 hn, nm_e ⟨vi_15 hn, nm_e ⟨vi_15 hn, nm_e ⟨vi_15 hn, nm_e ⟨vi_15 hn, ?_⟩⟩⟩⟩⟩⟩⟩
  rw [cg_15 hn, cg_15 ha, cg_15 hb, ho]
  exact br_f (by decide) ⟨vi_15 hn, br_t rfl ⟨vi_15 hn, vi_15 ha, vi_15 hb, xw_extent (xw_pnode ha (xw_pnode hb K))⟩⟩
end XL
end
section
section XM
variable {f_hostWidth f_hostHeight f_root f_focusedPane f_liveCount : Int32} {a_parent a_first a_second a_orientation a_share a_leastWidth a_leastHeight a_rectX a_rectY a_rectW a_rectH a_order a_live a_screenWidth a_screenHeight a_cursorRow a_cursorCol a_regionTop a_regionBottom a_parserMode a_paramOne a_paramTwo a_paramIndex a_cells : Nat → Int32}
variable {c : Nat} {nd en po : Nat → Nat} {kd vl : Nat → Int32}
theorem xw_lay77 {post : St2 → Prop} {k : Nat} {o : Nat → Nat} (T : tr_T c nd en po f_root a_parent a_first a_second a_orientation a_share kd vl) (O : bf_O c kd en k o) (ord : ∀ j, j < k → a_order j = nI (nd (o j)))
    (R : bf_R c k 0 kd vl nd en o a_leastWidth a_leastHeight a_rectX a_rectY a_rectW a_rectH f_hostWidth f_hostHeight)
    (K : ∀ rx ry rw rh, la_E c kd vl nd en a_leastWidth a_leastHeight rx ry rw rh f_hostWidth f_hostHeight → post (f_hostWidth, f_hostHeight, f_root, f_focusedPane, f_liveCount, a_parent, a_first, a_second, a_orientation, a_share, a_leastWidth, a_leastHeight, rx, ry, rw, rh, a_order, a_live, a_screenWidth, a_screenHeight, a_cursorRow, a_cursorCol, a_regionTop, a_regionBottom, a_parserMode, a_paramOne, a_paramTwo, a_paramIndex, a_cells)) : ∃ n, wX_layOut_77 post (nI k) n 0 f_hostWidth f_hostHeight f_root f_focusedPane f_liveCount a_parent a_first a_second a_orientation a_share a_leastWidth a_leastHeight a_rectX a_rectY a_rectW a_rectH a_order a_live a_screenWidth a_screenHeight a_cursorRow a_cursorCol a_regionTop a_regionBottom a_parserMode a_paramOne a_paramTwo a_paramIndex a_cells := by
  obtain ⟨P, T2, T3, T4, T5, T6, T7⟩ := id T
  have ND : ∀ a b, a < c → b < c → nd a = nd b → a = b := fun a b ha hb e => tr_inj T ha hb e
  have kc := O.2.1
  refine pk_loop (fun n i (s : (Nat → Int32) × (Nat → Int32) × (Nat → Int32) × (Nat → Int32)) => wX_layOut_77 post (nI k) n (nI i) f_hostWidth f_hostHeight f_root f_focusedPane f_liveCount a_parent a_first a_second a_orientation a_share a_leastWidth a_leastHeight s.1 s.2.1 s.2.2.1 s.2.2.2 a_order a_live a_screenWidth a_screenHeight a_cursorRow a_cursorCol a_regionTop a_regionBottom a_parserMode a_paramOne a_paramTwo a_paramIndex a_cells)
    (fun i s => bf_R c k i kd vl nd en o a_leastWidth a_leastHeight s.1 s.2.1 s.2.2.1 s.2.2.2 f_hostWidth f_hostHeight) k 0 (a_rectX, a_rectY, a_rectW, a_rectH) (Nat.zero_le _) R ?_ ?_
  · intro n s hs
    exact br_t (nI_le (Nat.le_refl _) (by omega)) (K _ _ _ _ (bf_E O hs))
  · intro n i s hi hs kk
    obtain ⟨rx, ry, rw, rh⟩ := s
    have oi := O.2.2.2.1 i hi
    obtain ⟨t1, t2, t3, t4, t5⟩ := T6 (o i) oi
    refine br_f (nI_ge hi (by omega)) ⟨vi_15 (by omega), ?_⟩
    rw [cg_15 (by omega), ord i hi]
    rcases T5 (o i) oi with z | ⟨z | z, _⟩
    · exact xw_place0 t1 (by rw [t3]; exact z) (nm_r (nI_1 i) (kk (rx, ry, rw, rh) (bf_R0 hs z)))
    · have z0 := ge_10 z
      obtain ⟨u1, u2, u3, u4, u5, u6⟩ := t5 z0
      obtain ⟨a1, a2, a3, a4, a5, a6⟩ := ps_nd P oi z0
      exact xw_place1 (v := la_v (rw (nd (o i))) (vl (o i)) (a_leastWidth (nd (o i + 1))) (a_leastWidth (nd (en (o i + 1))))) t1 (T6 _ a5).1 (T6 _ a6).1 u3 u4 (t3.trans z) (by rw [u2]) (nm_r (nI_1 i) (kk (upd (upd rx (nd (o i + 1)) (rx (nd (o i)))) (nd (en (o i + 1))) (rx (nd (o i)) + _ + 1), upd (upd ry (nd (o i + 1)) (ry (nd (o i)))) (nd (en (o i + 1))) (ry (nd (o i))), upd (upd rw (nd (o i + 1)) _) (nd (en (o i + 1))) (rw (nd (o i)) - _ - 1), upd (upd rh (nd (o i + 1)) (rh (nd (o i)))) (nd (en (o i + 1))) (rh (nd (o i)))) (bf_p1 P ND O hi hs z rfl)))
    · have z0 := ge_20 z
      obtain ⟨u1, u2, u3, u4, u5, u6⟩ := t5 z0
      obtain ⟨a1, a2, a3, a4, a5, a6⟩ := ps_nd P oi z0
      exact xw_place2 (v := la_v (rh (nd (o i))) (vl (o i)) (a_leastHeight (nd (o i + 1))) (a_leastHeight (nd (en (o i + 1))))) t1 (T6 _ a5).1 (T6 _ a6).1 u3 u4 (t3.trans z) (by rw [u2]) (nm_r (nI_1 i) (kk (upd (upd rx (nd (o i + 1)) (rx (nd (o i)))) (nd (en (o i + 1))) (rx (nd (o i))), upd (upd ry (nd (o i + 1)) (ry (nd (o i)))) (nd (en (o i + 1))) (ry (nd (o i)) + _ + 1), upd (upd rw (nd (o i + 1)) (rw (nd (o i)))) (nd (en (o i + 1))) (rw (nd (o i))), upd (upd rh (nd (o i + 1)) _) (nd (en (o i + 1))) (rh (nd (o i)) - _ - 1)) (bf_p2 P ND O hi hs z rfl)))
theorem xw_lay9 {post : St2 → Prop} {k : Nat} {o : Nat → Nat} (T : tr_T c nd en po f_root a_parent a_first a_second a_orientation a_share kd vl) (O : bf_O c kd en k o) (ord : ∀ j, j < k → a_order j = nI (nd (o j)))
    (K : ∀ lw lh rx ry rw rh, la_L c kd nd en lw lh → la_E c kd vl nd en lw lh rx ry rw rh f_hostWidth f_hostHeight → post (f_hostWidth, f_hostHeight, f_root, f_focusedPane, f_liveCount, a_parent, a_first, a_second, a_orientation, a_share, lw, lh, rx, ry, rw, rh, a_order, a_live, a_screenWidth, a_screenHeight, a_cursorRow, a_cursorCol, a_regionTop, a_regionBottom, a_parserMode, a_paramOne, a_paramTwo, a_paramIndex, a_cells)) : ∃ n, wX_layOut_9 post (nI k) n (nI k - 1) f_hostWidth f_hostHeight f_root f_focusedPane f_liveCount a_parent a_first a_second a_orientation a_share a_leastWidth a_leastHeight a_rectX a_rectY a_rectW a_rectH a_order a_live a_screenWidth a_screenHeight a_cursorRow a_cursorCol a_regionTop a_regionBottom a_parserMode a_paramOne a_paramTwo a_paramIndex a_cells := by
  obtain ⟨P, T2, T3, T4, T5, T6, T7⟩ := id T
  have ND : ∀ a b, a < c → b < c → nd a = nd b → a = b := fun a b ha hb e => tr_inj T ha hb e
  have kc := O.2.1
  refine ⟨k + 1, pk_loopD (fun n i (s : (Nat → Int32) × (Nat → Int32)) => wX_layOut_9 post (nI k) n (nI i - 1) f_hostWidth f_hostHeight f_root f_focusedPane f_liveCount a_parent a_first a_second a_orientation a_share s.1 s.2 a_rectX a_rectY a_rectW a_rectH a_order a_live a_screenWidth a_screenHeight a_cursorRow a_cursorCol a_regionTop a_regionBottom a_parserMode a_paramOne a_paramTwo a_paramIndex a_cells)
    (fun i s => i ≤ k ∧ ∀ j, i ≤ j → j < k → la_l kd nd en s.1 s.2 (o j)) ?_ ?_ k (a_leastWidth, a_leastHeight) ⟨Nat.le_refl _, fun j h1 h2 => by omega⟩⟩
  · intro n s hs
    obtain ⟨lw, lh⟩ := s
    have L := bf_all O (fun j hj => hs.2 j (Nat.zero_le _) hj)
    have r15 := (T6 0 P.1).1
    have vr : vp_in f_root 15 := by rw [T3]; exact vi_15 r15
    have er : f_root.toNatClampNeg = nd 0 := by rw [T3]; exact cg_15 r15
    refine br_t (by decide) ⟨vr, nm_r (e' := upd a_rectX (nd 0) 0) (by rw [er]) ⟨vr, nm_r (e' := upd a_rectY (nd 0) 0) (by rw [er]) ⟨vr, nm_r (e' := upd a_rectW (nd 0) f_hostWidth) (by rw [er]) ⟨vr, nm_r (e' := upd a_rectH (nd 0) f_hostHeight) (by rw [er]) ?_⟩⟩⟩⟩
    exact xw_lay77 (a_leastWidth := lw) (a_leastHeight := lh) T O ord ⟨pk_us, pk_us, pk_us, pk_us, fun j h => by omega⟩ (fun rx ry rw rh E => K lw lh rx ry rw rh L E)
  · intro n i s hs kk
    obtain ⟨lw, lh⟩ := s
    obtain ⟨hi, hl⟩ := hs
    have oi := O.2.2.2.1 i (by omega)
    obtain ⟨t1, t2, t3, t4, t5⟩ := T6 (o i) oi
    have ep : nI (i + 1) - 1 = nI i := nI_pred i
    have em : nI (i + 1) - 1 + (-1) = nI i - 1 := by rw [ep, Int32.sub_eq_add_neg]
    refine br_f (by rw [ep]; exact nI_pos (by omega)) ⟨by rw [ep]; exact vi_15 (by omega), ?_⟩
    have eo : a_order (nI (i + 1) - 1).toNatClampNeg = nI (nd (o i)) := by rw [ep, cg_15 (by omega)]; exact ord i (by omega)
    rw [eo]
    rcases T5 (o i) oi with z | ⟨z | z, _⟩
    · refine xw_meas0 t1 (by rw [t3]; exact z) (nm_r em (kk (_, _) ⟨by omega, bf_ms P ND O (by omega) (fun j h1 h2 => hl j (by omega) h2) (fun _ => ⟨rfl, rfl⟩) (fun y => absurd z (ge_10 y)) (fun y => absurd z (ge_20 y))⟩))
    · have z0 := ge_10 z
      obtain ⟨u1, u2, u3, u4, u5, u6⟩ := t5 z0
      obtain ⟨a1, a2, a3, a4, a5, a6⟩ := ps_nd P oi z0
      refine xw_meas1 t1 (T6 _ a5).1 (T6 _ a6).1 u3 u4 (by rw [t3]; exact z) (nm_r em (kk (_, _) ⟨by omega, bf_ms P ND O (by omega) (fun j h1 h2 => hl j (by omega) h2) (fun y => absurd y z0) (fun _ => ⟨rfl, rfl⟩) (fun y => (ge_12 z y).elim)⟩))
    · have z0 := ge_20 z
      obtain ⟨u1, u2, u3, u4, u5, u6⟩ := t5 z0
      obtain ⟨a1, a2, a3, a4, a5, a6⟩ := ps_nd P oi z0
      refine xw_meas2 t1 (T6 _ a5).1 (T6 _ a6).1 u3 u4 (by rw [t3]; exact z) (nm_r em (kk (_, _) ⟨by omega, bf_ms P ND O (by omega) (fun j h1 h2 => hl j (by omega) h2) (fun y => absurd y z0) (fun y => (ge_12 y z).elim) (fun _ => ⟨rfl, rfl⟩)⟩))
/-- the component's layout: least sizes and rectangles as the tree asks -/
theorem xw_layOut {post : St2 → Prop} (T : tr_T c nd en po f_root a_parent a_first a_second a_orientation a_share kd vl)
    (K : ∀ lw lh rx ry rw rh ord, la_L c kd nd en lw lh → la_E c kd vl nd en lw lh rx ry rw rh f_hostWidth f_hostHeight → post (f_hostWidth, f_hostHeight, f_root, f_focusedPane, f_liveCount, a_parent, a_first, a_second, a_orientation, a_share, lw, lh, rx, ry, rw, rh, ord, a_live, a_screenWidth, a_screenHeight, a_cursorRow, a_cursorCol, a_regionTop, a_regionBottom, a_parserMode, a_paramOne, a_paramTwo, a_paramIndex, a_cells)) : wpX_layOut post (f_hostWidth, f_hostHeight, f_root, f_focusedPane, f_liveCount, a_parent, a_first, a_second, a_orientation, a_share, a_leastWidth, a_leastHeight, a_rectX, a_rectY, a_rectW, a_rectH, a_order, a_live, a_screenWidth, a_screenHeight, a_cursorRow, a_cursorCol, a_regionTop, a_regionBottom, a_parserMode, a_paramOne, a_paramTwo, a_paramIndex, a_cells) := by
  unfold wpX_layOut
  exact xw_order T (fun k o ord O ho => nm_e (xw_lay9 (a_order := ord) T O ho (fun lw lh rx ry rw rh L E => K lw lh rx ry rw rh ord L E)))
end XM
end
section
theorem fi_q {B kw kh j : Nat} : (ce_q B kh 0 12 24 j ∨ ce_q B 0 kw 12 24 j) ↔ B ≤ j ∧ j < B + 288 ∧ (kh ≤ (j - B) / 24 ∨ kw ≤ (j - B) % 24) := by
  unfold ce_q
  constructor <;> intro z <;> omega
section FX
variable {f_hostWidth f_hostHeight f_root f_focusedPane f_liveCount : Int32} {a_parent a_first a_second a_orientation a_share a_leastWidth a_leastHeight a_rectX a_rectY a_rectW a_rectH a_order a_live a_screenWidth a_screenHeight a_cursorRow a_cursorCol a_regionTop a_regionBottom a_parserMode a_paramOne a_paramTwo a_paramIndex a_cells : Nat → Int32}
theorem xw_start {post : St2 → Prop} {g : Nat} (hg : g < 8) (K : post (f_hostWidth, f_hostHeight, f_root, f_focusedPane, f_liveCount + 1, a_parent, a_first, a_second, a_orientation, a_share, a_leastWidth, a_leastHeight, a_rectX, a_rectY, a_rectW, a_rectH, a_order, upd a_live g 1, upd a_screenWidth g (a_rectW g), upd a_screenHeight g (a_rectH g), upd a_cursorRow g 0, upd a_cursorCol g 0, upd a_regionTop g 0, upd a_regionBottom g (a_rectH g - 1), upd a_parserMode g 0, upd a_paramOne g 0, upd a_paramTwo g 0, upd a_paramIndex g 0, ce_w (ce_q (g * 288) 0 0 12 24) a_cells)) : wpX_startPane post (f_hostWidth, f_hostHeight, f_root, f_focusedPane, f_liveCount, a_parent, a_first, a_second, a_orientation, a_share, a_leastWidth, a_leastHeight, a_rectX, a_rectY, a_rectW, a_rectH, a_order, a_live, a_screenWidth, a_screenHeight, a_cursorRow, a_cursorCol, a_regionTop, a_regionBottom, a_parserMode, a_paramOne, a_paramTwo, a_paramIndex, a_cells) (nI g) := by
  have v8 := vi_8 hg
  have v15 : vp_in (nI g) 15 := vi_15 (by omega)
  have e := cg_8 hg
  refine ⟨v8, nm_r (e' := upd a_live g 1) (by rw [e]) (nm_e ⟨v15, v8, nm_r (e' := upd a_screenWidth g (a_rectW g)) (by rw [e]) ⟨v15, v8, nm_r (e' := upd a_screenHeight g (a_rectH g)) (by rw [e]) (xw_blank (r0 := 0) (c0 := 0) (r1 := 12) (c1 := 24) hg (by omega) (by omega) (by omega) (by omega) ?_)⟩⟩)⟩
  exact ⟨v8, nm_r (e' := upd a_cursorRow g 0) (by rw [e]) ⟨v8, nm_r (e' := upd a_cursorCol g 0) (by rw [e]) ⟨v8, nm_r (e' := upd a_regionTop g 0) (by rw [e]) ⟨v15, v8, nm_r (e' := upd a_regionBottom g (a_rectH g - 1)) (by rw [e]) ⟨v8, nm_r (e' := upd a_parserMode g 0) (by rw [e]) ⟨v8, nm_r (e' := upd a_paramOne g 0) (by rw [e]) ⟨v8, nm_r (e' := upd a_paramTwo g 0) (by rw [e]) ⟨v8, nm_r (e' := upd a_paramIndex g 0) (by rw [e]) K⟩⟩⟩⟩⟩⟩⟩⟩
theorem xw_fit {post : St2 → Prop} {g ow oh nw nh kw kh : Nat} (hg : g < 8) (h1 : a_screenWidth g = nI ow) (h2 : a_screenHeight g = nI oh) (h3 : a_rectW g = nI nw) (h4 : a_rectH g = nI nh) (n1 : 1 ≤ nw) (n2 : nw ≤ 24) (n3 : 1 ≤ nh) (n4 : nh ≤ 12) (o1 : ow ≤ 24) (o2 : oh ≤ 12) (k1 : kw = if nw ≤ ow then nw else ow) (k2 : kh = if nh ≤ oh then nh else oh)
    (K : post (f_hostWidth, f_hostHeight, f_root, f_focusedPane, f_liveCount, a_parent, a_first, a_second, a_orientation, a_share, a_leastWidth, a_leastHeight, a_rectX, a_rectY, a_rectW, a_rectH, a_order, a_live, upd a_screenWidth g (a_rectW g), upd a_screenHeight g (a_rectH g), upd a_cursorRow g (fi_r a_cursorRow a_rectH g), upd a_cursorCol g (fi_r a_cursorCol a_rectW g), upd a_regionTop g (fi_t a_regionTop a_regionBottom a_rectH g), upd a_regionBottom g (fi_b a_regionBottom a_rectH g), a_parserMode, a_paramOne, a_paramTwo, a_paramIndex, ce_w (fun j => ce_q (g * 288) kh 0 12 24 j ∨ ce_q (g * 288) 0 kw 12 24 j) a_cells)) : wpX_fitScreen post (f_hostWidth, f_hostHeight, f_root, f_focusedPane, f_liveCount, a_parent, a_first, a_second, a_orientation, a_share, a_leastWidth, a_leastHeight, a_rectX, a_rectY, a_rectW, a_rectH, a_order, a_live, a_screenWidth, a_screenHeight, a_cursorRow, a_cursorCol, a_regionTop, a_regionBottom, a_parserMode, a_paramOne, a_paramTwo, a_paramIndex, a_cells) (nI g) := by
  have v8 := vi_8 hg
  have v15 : vp_in (nI g) 15 := vi_15 (by omega)
  have e := cg_8 hg
  have lw : kw ≤ 24 := by rw [k1]; split <;> omega
  have lh : kh ≤ 12 := by rw [k2]; split <;> omega
  refine ⟨v15, nm_e ⟨v15, nm_e ⟨v8, xw_smaller ⟨v8, xw_smaller ?_⟩⟩⟩⟩
  rw [e, h1, h2, h3, h4, la_mnN (by omega) (by omega), la_mnN (by omega) (by omega), ← k1, ← k2]
  refine xw_blank (r0 := 0) (c0 := kw) (r1 := 12) (c1 := 24) hg (by omega) (by omega) (by omega) lw (xw_blank (r0 := kh) (c0 := 0) (r1 := 12) (c1 := 24) hg lh (by omega) (by omega) (by omega) ?_)
  rw [ce_ww]
  refine ⟨v8, nm_r (e' := upd a_screenWidth g (a_rectW g)) (by rw [h3]) ⟨v8, nm_r (e' := upd a_screenHeight g (a_rectH g)) (by rw [h4]) ⟨v8, xw_smaller ⟨v8, nm_r (e' := upd a_cursorRow g (fi_r a_cursorRow a_rectH g)) (by unfold fi_r; rw [h4]) ⟨v8, xw_smaller ⟨v8, nm_r (e' := upd a_cursorCol g (fi_r a_cursorCol a_rectW g)) (by unfold fi_r; rw [h3]) ⟨v8, ?_⟩⟩⟩⟩⟩⟩⟩
  by_cases z : a_regionBottom g ≤ nI nh - 1
  · refine br_t z ?_
    have q : ¬ nI nh - 1 < a_regionBottom g := Int32.not_lt.mpr z
    have e1 : fi_t a_regionTop a_regionBottom a_rectH g = a_regionTop g := by unfold fi_t; rw [h4, if_neg q]
    have e2 : fi_b a_regionBottom a_rectH g = a_regionBottom g := by unfold fi_b; rw [h4, if_neg q]
    rw [e1, e2, pk_uu, pk_uu] at K
    exact K
  · have q : nI nh - 1 < a_regionBottom g := Int32.not_le.mp z
    exact br_f z ⟨v8, nm_r (e' := upd a_regionTop g (fi_t a_regionTop a_regionBottom a_rectH g)) (by unfold fi_t; rw [h4, if_pos q]) ⟨v8, nm_r (e' := upd a_regionBottom g (fi_b a_regionBottom a_rectH g)) (by unfold fi_b; rw [h4, if_pos q]) K⟩⟩
theorem xw_fits {post : St2 → Prop} {kw kh : Nat → Nat} (F : fi_F a_live a_screenWidth a_screenHeight a_rectW a_rectH kw kh)
    (K : post (f_hostWidth, f_hostHeight, f_root, f_focusedPane, f_liveCount, a_parent, a_first, a_second, a_orientation, a_share, a_leastWidth, a_leastHeight, a_rectX, a_rectY, a_rectW, a_rectH, a_order, a_live, fi_A a_live 8 a_rectW a_screenWidth, fi_A a_live 8 a_rectH a_screenHeight, fi_A a_live 8 (fi_r a_cursorRow a_rectH) a_cursorRow, fi_A a_live 8 (fi_r a_cursorCol a_rectW) a_cursorCol, fi_A a_live 8 (fi_t a_regionTop a_regionBottom a_rectH) a_regionTop, fi_A a_live 8 (fi_b a_regionBottom a_rectH) a_regionBottom, a_parserMode, a_paramOne, a_paramTwo, a_paramIndex, ce_w (fi_S a_live kw kh 8) a_cells)) : wpX_fitScreens post (f_hostWidth, f_hostHeight, f_root, f_focusedPane, f_liveCount, a_parent, a_first, a_second, a_orientation, a_share, a_leastWidth, a_leastHeight, a_rectX, a_rectY, a_rectW, a_rectH, a_order, a_live, a_screenWidth, a_screenHeight, a_cursorRow, a_cursorCol, a_regionTop, a_regionBottom, a_parserMode, a_paramOne, a_paramTwo, a_paramIndex, a_cells) := by
  have main : ∀ d i, i + d = 8 → wX_fitScreens_2 post (d + 1) (nI i) f_hostWidth f_hostHeight f_root f_focusedPane f_liveCount a_parent a_first a_second a_orientation a_share a_leastWidth a_leastHeight a_rectX a_rectY a_rectW a_rectH a_order a_live (fi_A a_live i a_rectW a_screenWidth) (fi_A a_live i a_rectH a_screenHeight) (fi_A a_live i (fi_r a_cursorRow a_rectH) a_cursorRow) (fi_A a_live i (fi_r a_cursorCol a_rectW) a_cursorCol) (fi_A a_live i (fi_t a_regionTop a_regionBottom a_rectH) a_regionTop) (fi_A a_live i (fi_b a_regionBottom a_rectH) a_regionBottom) a_parserMode a_paramOne a_paramTwo a_paramIndex (ce_w (fi_S a_live kw kh i) a_cells) := by
    intro d
    induction d with
    | zero =>
      intro i hi
      have e : i = 8 := by omega
      subst e
      exact br_t (nI_le (a := 8) (Nat.le_refl _) (by omega)) K
    | succ d ih =>
      intro i hi
      have h8 : i < 8 := by omega
      have IH := ih (i + 1) (by omega)
      refine br_f (nI_ge (b := 8) h8 (by omega)) ⟨vi_8 h8, ?_⟩
      rw [cg_8 h8]
      by_cases z : a_live i = 0
      · refine br_t z (nm_r (nI_1 i) ?_)
        rw [fi_Ak (Or.inl z), fi_Ak (Or.inl z), fi_Ak (Or.inl z), fi_Ak (Or.inl z), fi_Ak (Or.inl z), fi_Ak (Or.inl z), fi_Sk z] at IH
        exact IH
      · obtain ⟨ow, oh, nw, nh, f1, f2, f3, f4, f5, f6, f7, f8, f9, f10, f11, f12⟩ := F i h8 z
        refine br_f z (xw_fit (ow := ow) (oh := oh) (nw := nw) (nh := nh) (kw := kw i) (kh := kh i) h8 (by rw [fi_Ao (Nat.le_refl _)]; exact f1) (by rw [fi_Ao (Nat.le_refl _)]; exact f2) f3 f4 f5 f6 f7 f8 f9 f10 f11 f12 (nm_r (nI_1 i) ?_))
        have r1 : fi_r (fi_A a_live i (fi_r a_cursorRow a_rectH) a_cursorRow) a_rectH i = fi_r a_cursorRow a_rectH i := by unfold fi_r; rw [fi_Ao (Nat.le_refl _)]
        have r2 : fi_r (fi_A a_live i (fi_r a_cursorCol a_rectW) a_cursorCol) a_rectW i = fi_r a_cursorCol a_rectW i := by unfold fi_r; rw [fi_Ao (Nat.le_refl _)]
        have r3 : fi_t (fi_A a_live i (fi_t a_regionTop a_regionBottom a_rectH) a_regionTop) (fi_A a_live i (fi_b a_regionBottom a_rectH) a_regionBottom) a_rectH i = fi_t a_regionTop a_regionBottom a_rectH i := by unfold fi_t; rw [fi_Ao (Nat.le_refl _), fi_Ao (Nat.le_refl _)]
        have r4 : fi_b (fi_A a_live i (fi_b a_regionBottom a_rectH) a_regionBottom) a_rectH i = fi_b a_regionBottom a_rectH i := by unfold fi_b; rw [fi_Ao (Nat.le_refl _)]
        rw [fi_Au z rfl, fi_Au z rfl, fi_Au z r1, fi_Au z r2, fi_Au z r3, fi_Au z r4, fi_Su z (fun j => fi_q)]
        exact IH
  have m := main 8 0 (by omega)
  rw [fi_A0, fi_A0, fi_A0, fi_A0, fi_A0, fi_A0, fi_S0] at m
  exact ⟨9, m⟩
end FX
end
section
theorem rl_cg {lv xx xy xw xh sw sh yx yy yw yh R C T B M P1 P2 K xc yc lv' sw' sh' R' C' T' B' M' P1' P2' K' xc' yc' : Nat → Int32} {g : Nat} (h : rl_p lv xx xy xw xh sw sh yx yy yw yh R C T B M P1 P2 K xc yc g) (hl : lv' g ≠ 0 → lv g ≠ 0) (es : sw' g = sw g ∧ sh' g = sh g)
    (e : R' g = R g ∧ C' g = C g ∧ T' g = T g ∧ B' g = B g ∧ M' g = M g ∧ P1' g = P1 g ∧ P2' g = P2 g ∧ K' g = K g) (ce : ∀ w h, ce_R (g * 288) w h xc yc → ce_R (g * 288) w h xc' yc') : rl_p lv' xx xy xw xh sw' sh' yx yy yw yh R' C' T' B' M' P1' P2' K' xc' yc' g := by
  intro hl'
  obtain ⟨a1, a2, a3, a4, a5, a6, w, hh, b1, b2, b3, b4, b5, b6, q, cr⟩ := h (hl hl')
  obtain ⟨e1, e2, e3, e4, e5, e6, e7, e8⟩ := e
  refine ⟨a1, a2, a3, a4, es.1.trans a5, es.2.trans a6, w, hh, b1, b2, b3, b4, b5, b6, ?_, ce w hh cr⟩
  unfold rl_q at q ⊢
  rw [e1, e2, e3, e4, e5, e6, e7, e8]
  exact q
/-- the sizes before and after a layout, of the panes that stay -/
theorem rl_F {c : Nat} {nd en po : Nat → Nat} {w0 h0 : Nat} {root : Int32} {pa fi se ori sr lw lh rx ry rw rh kd vl dv lv xx xy xw xh sw sh yx yy yw yh R C T B M P1 P2 K xc yc lv' : Nat → Int32} (G : rl_G c nd en po w0 h0 root pa fi se ori sr lw lh rx ry rw rh kd vl lv')
    (hd : ∀ g, g < 8 → dv g ≠ 0 → lv g ≠ 0 ∧ lv' g ≠ 0) (Pn : ∀ g, g < 8 → rl_p lv xx xy xw xh sw sh yx yy yw yh R C T B M P1 P2 K xc yc g) : fi_F dv sw sh rw rh (fi_k sw rw) (fi_k sh rh) := by
  intro g hg hz
  obtain ⟨l1, l2⟩ := hd g hg hz
  obtain ⟨a1, a2, a3, a4, a5, a6, w, h, b1, b2, b3, b4, b5, b6, _⟩ := Pn g hg l1
  obtain ⟨x, y, nw, nh, c1, c2, c3, c4, c5, c6, c7, c8, _⟩ := rl_sz G hg l2
  have e1 := a5.trans b1
  have e2 := a6.trans b2
  exact ⟨w, h, nw, nh, e1, e2, c3, c4, c5, c6, c7, c8, b4, b6, fi_kk e1 c3 b4 c6, fi_kk e2 c4 (by omega) (by omega)⟩
/-- a live pane is a leaf of the tree -/
theorem rl_leaf {c : Nat} {nd en po : Nat → Nat} {w0 h0 : Nat} {root : Int32} {pa fi se ori sr lw lh rx ry rw rh kd vl lv : Nat → Int32} (G : rl_G c nd en po w0 h0 root pa fi se ori sr lw lh rx ry rw rh kd vl lv) {g : Nat} (hg : g < 8) (hl : lv g ≠ 0) : ∃ q, q < c ∧ kd q = 0 ∧ nd q = g := by
  obtain ⟨T, L, E, g1, g2, g3, g4, g5, g6, g7⟩ := G
  obtain ⟨i, hi, e⟩ := (g7 g hg).2.mp hl
  refine ⟨i, hi, ?_, e⟩
  by_cases z : kd i = 0
  · exact z
  · have := ((T.2.2.2.2.2.1 i hi).2.2.2.2 z).1
    omega
theorem rl_fin {c : Nat} {nd en po : Nat → Nat} {w0 h0 : Nat} {root : Int32} {pa fi se ori sr lw lh rx ry rw rh kd vl dv lv xx xy xw xh sw sh yx yy yw yh R C T B M P1 P2 K xc yc yrx yry yrw yrh : Nat → Int32} {kw kh : Nat → Nat} (G : rl_G c nd en po w0 h0 root pa fi se ori sr lw lh rx ry rw rh kd vl dv)
    (hd : ∀ g, g < 8 → dv g ≠ 0 → lv g ≠ 0) (Pn : ∀ g, g < 8 → rl_p lv xx xy xw xh sw sh yx yy yw yh R C T B M P1 P2 K xc yc g) (F : fi_F dv sw sh rw rh kw kh) (RE : ∀ q, q < c → kd q = 0 → yrx (nd q) = rx (nd q) ∧ yry (nd q) = ry (nd q) ∧ yrw (nd q) = rw (nd q) ∧ yrh (nd q) = rh (nd q)) :
    ∀ g, g < 8 → rl_p dv rx ry rw rh (fi_A dv 8 rw sw) (fi_A dv 8 rh sh) yrx yry yrw yrh (fi_A dv 8 (fi_r R rh) R) (fi_A dv 8 (fi_r C rw) C) (fi_A dv 8 (fi_t T B rh) T) (fi_A dv 8 (fi_b B rh) B) M P1 P2 K (ce_w (fi_S dv kw kh 8) xc) (ce_w (fi_S dv kw kh 8) yc) g := by
  intro g hg hl
  obtain ⟨q, hq, kq, e⟩ := rl_leaf G hg hl
  have r := RE q hq kq
  rw [e] at r
  exact rl_re hg hl (hd g hg hl) (Pn g hg) F r hl
theorem rl_hnd {c : Nat} {nd en po : Nat → Nat} {root : Int32} {pa fi se ori sh kd vl : Nat → Int32} (T : tr_T c nd en po root pa fi se ori sh kd vl) : ∀ i, i < c → kd i = 0 → nd i < 8 ∧ vl i = nI (nd i) := fun i hi h => (T.2.2.2.2.2.1 i hi).2.2.2.1 h
theorem rl_ND {c : Nat} {nd en po : Nat → Nat} {root : Int32} {pa fi se ori sh kd vl : Nat → Int32} (T : tr_T c nd en po root pa fi se ori sh kd vl) : ∀ a b, a < c → b < c → nd a = nd b → a = b := fun a b ha hb e => tr_inj T ha hb e
end
section
/-- a parameter, or one -/
def fd_n (a : Nat) : Nat := if a = 0 then 1 else a
theorem fd_n1 (a : Nat) (h : a ≤ 99) : 1 ≤ fd_n a ∧ fd_n a ≤ 99 := by unfold fd_n; split <;> omega
theorem xw_orOne {post : Int32 → Prop} {a : Nat} (ha : a ≤ 99) (K : post (nI (fd_n a))) : wpX_orOne post () (nI a) := by
  unfold fd_n at K
  refine pk_le a 0 (fun z => ?_) (fun z => ?_)
  · rw [if_pos (by omega)] at K; exact K
  · rw [if_neg (by omega)] at K; exact K
theorem la_mxs {a b : Nat} (ha : a < 1000) (hb : b < 1000) : la_mx 0 (nI a - nI b) = nI (a - b) := by
  by_cases h : b ≤ a
  · rw [pk_sub h]
    have := la_mxN (a := 0) (b := a - b) (by omega) (by omega)
    rw [if_pos (Nat.zero_le _)] at this
    exact this
  · have s := pk_sneg (a := a) (b := b) (by omega) (by omega)
    unfold la_mx
    rw [if_neg (fun z => absurd s (Int32.not_lt.mpr z)), show a - b = 0 by omega]
    rfl
theorem la_mns {a b : Nat} (ha : 1 ≤ a) (hb : b < 1000) (ha' : a < 1000) : la_mn (nI a - 1) (nI b) = nI (if b ≤ a - 1 then b else a - 1) := by
  rw [la_sub1 ha, la_mnN (by omega) (by omega)]
/-- the last line of a region -/
def fd_z (d h : Nat) : Nat := if d = 0 then h else if h ≤ d then h else d
section FF
variable {f_hostWidth f_hostHeight f_root f_focusedPane f_liveCount : Int32} {a_parent a_first a_second a_orientation a_share a_leastWidth a_leastHeight a_rectX a_rectY a_rectW a_rectH a_order a_live a_screenWidth a_screenHeight a_cursorRow a_cursorCol a_regionTop a_regionBottom a_parserMode a_paramOne a_paramTwo a_paramIndex a_cells : Nat → Int32}
variable {c : Nat} {nd en po : Nat → Nat} {w0 h0 f : Nat} {k g w h r q t b m a d kk v : Nat} {v2 : Int32}
theorem xw_reg {post : St2 → Prop} {n1 : Nat} (hg : g < 8) (hH : a_screenHeight g = nI h) (hD : a_paramTwo g = nI d) (hd : d ≤ 99) (h1 : 1 ≤ h) (h4 : h ≤ 12) (n1l : 1 ≤ n1) (n1u : n1 ≤ 99) (k0 : fd_z d h ≤ n1 → post (f_hostWidth, f_hostHeight, f_root, f_focusedPane, f_liveCount, a_parent, a_first, a_second, a_orientation, a_share, a_leastWidth, a_leastHeight, a_rectX, a_rectY, a_rectW, a_rectH, a_order, a_live, a_screenWidth, a_screenHeight, a_cursorRow, a_cursorCol, a_regionTop, a_regionBottom, a_parserMode, a_paramOne, a_paramTwo, a_paramIndex, a_cells))
    (k1 : n1 < fd_z d h → post (f_hostWidth, f_hostHeight, f_root, f_focusedPane, f_liveCount, a_parent, a_first, a_second, a_orientation, a_share, a_leastWidth, a_leastHeight, a_rectX, a_rectY, a_rectW, a_rectH, a_order, a_live, a_screenWidth, a_screenHeight, upd a_cursorRow g 0, upd a_cursorCol g 0, upd a_regionTop g (nI (n1 - 1)), upd a_regionBottom g (nI (fd_z d h - 1)), a_parserMode, a_paramOne, a_paramTwo, a_paramIndex, a_cells)) : wpX_setRegion post (f_hostWidth, f_hostHeight, f_root, f_focusedPane, f_liveCount, a_parent, a_first, a_second, a_orientation, a_share, a_leastWidth, a_leastHeight, a_rectX, a_rectY, a_rectW, a_rectH, a_order, a_live, a_screenWidth, a_screenHeight, a_cursorRow, a_cursorCol, a_regionTop, a_regionBottom, a_parserMode, a_paramOne, a_paramTwo, a_paramIndex, a_cells) (nI g) (nI n1) := by
  have v8 := vi_8 hg
  have e := cg_8 hg
  have zb : 1 ≤ fd_z d h ∧ fd_z d h ≤ 12 := by unfold fd_z; (repeat' split) <;> omega
  have B : ∀ z, z = nI (fd_z d h) → wX_setRegion_30 post (nI g) (nI n1) z f_hostWidth f_hostHeight f_root f_focusedPane f_liveCount a_parent a_first a_second a_orientation a_share a_leastWidth a_leastHeight a_rectX a_rectY a_rectW a_rectH a_order a_live a_screenWidth a_screenHeight a_cursorRow a_cursorCol a_regionTop a_regionBottom a_parserMode a_paramOne a_paramTwo a_paramIndex a_cells := by
    intro z hz
    subst hz
    exact pk_le (fd_z d h) n1 (fun y => k0 y) (fun y => ⟨v8, nm_r (e' := upd a_regionTop g (nI (n1 - 1))) (by rw [e, la_sub1 n1l]) ⟨v8, nm_r (e' := upd a_regionBottom g (nI (fd_z d h - 1))) (by rw [e, la_sub1 zb.1]) ⟨v8, nm_r (e' := upd a_cursorRow g 0) (by rw [e]) ⟨v8, nm_r (e' := upd a_cursorCol g 0) (by rw [e]) (k1 y)⟩⟩⟩⟩)
  refine ⟨v8, nm_r (e' := nI h) (by rw [e]; exact hH) ⟨v8, ?_⟩⟩
  rw [e, hD]
  refine pk_le d 0 (fun y => B _ ?_) (fun y => ⟨v8, xw_smaller (B _ ?_)⟩)
  · unfold fd_z; rw [if_pos (by omega)]
  · unfold fd_z; rw [if_neg (by omega), la_mnN (by omega) (by omega)]
end FF
end
section
theorem ho_in {p q : Int32} {w0 h0 : Nat} (hw : w0 ≤ 24) (hh : h0 ≤ 12) (o : ¬ (p < 0 ∨ nI h0 ≤ p ∨ q < 0 ∨ ¬ q < nI w0)) : ∃ r s, p = nI r ∧ q = nI s ∧ r < h0 ∧ s < w0 := by
  have h1 : ¬ p < 0 := fun z => o (Or.inl z)
  have h2 : ¬ nI h0 ≤ p := fun z => o (Or.inr (Or.inl z))
  have h3 : ¬ q < 0 := fun z => o (Or.inr (Or.inr (Or.inl z)))
  have h4 : q < nI w0 := by
    by_cases z : q < nI w0
    · exact z
    · exact absurd (Or.inr (Or.inr (Or.inr z))) o
  obtain ⟨r, hr, rfl⟩ := nI_of h1
  obtain ⟨s, hs, rfl⟩ := nI_of h3
  rw [nI_leI (by omega) hr] at h2
  rw [nI_ltI hs (by omega)] at h4
  exact ⟨r, s, rfl, rfl, by omega, h4⟩
section HB
variable {f_hostWidth f_hostHeight f_root f_focusedPane f_liveCount : Int32} {a_parent a_first a_second a_orientation a_share a_leastWidth a_leastHeight a_rectX a_rectY a_rectW a_rectH a_order a_live a_screenWidth a_screenHeight a_cursorRow a_cursorCol a_regionTop a_regionBottom a_parserMode a_paramOne a_paramTwo a_paramIndex a_cells : Nat → Int32}
variable {c : Nat} {nd en po : Nat → Nat} {w0 h0 : Nat} {kd vl lv : Nat → Int32} {X Y W H mw mh : Nat → Nat}
theorem xw_inside {post : Int32 → Prop} {i r s : Nat} (hn : nd i < 15) (hw : w0 ≤ 24) (hh : h0 ≤ 12) (N : la_N c nd a_leastWidth a_leastHeight a_rectX a_rectY a_rectW a_rectH w0 h0 X Y W H mw mh) (hi : i < c) (hr : r < 2 ^ 31) (hs : s < 2 ^ 31) (K1 : ge_in X Y W H r s i → post 1) (K0 : ¬ ge_in X Y W H r s i → post 0) : wpX_isInside post (f_hostWidth, f_hostHeight, f_root, f_focusedPane, f_liveCount, a_parent, a_first, a_second, a_orientation, a_share, a_leastWidth, a_leastHeight, a_rectX, a_rectY, a_rectW, a_rectH, a_order, a_live, a_screenWidth, a_screenHeight, a_cursorRow, a_cursorCol, a_regionTop, a_regionBottom, a_parserMode, a_paramOne, a_paramTwo, a_paramIndex, a_cells) (nI (nd i)) (nI r) (nI s) := by
  obtain ⟨n1, n2, n3, n4, n5, n6, n7, n8, n9, n10, n11, n12⟩ := N i hi
  have v15 := vi_15 hn
  have e := cg_15 hn
  refine ⟨v15, nm_r (e' := nI (X i)) (by rw [e]; exact n3) ⟨v15, nm_r (e' := nI (Y i)) (by rw [e]; exact n4) ?_⟩⟩
  rw [e, n5, n6, nI_add, nI_add]
  refine pk_lt r (Y i) (fun z => K0 (fun g => by unfold ge_in at g; omega)) (fun z => ⟨v15, pk_le (Y i + H i) r (fun z2 => K0 (fun g => by unfold ge_in at g; omega)) (fun z2 => pk_lt s (X i) (fun z3 => K0 (fun g => by unfold ge_in at g; omega)) (fun z3 => ⟨v15, pk_le (X i + W i) s (fun z4 => K0 (fun g => by unfold ge_in at g; omega)) (fun z4 => K1 ⟨z3, z4, z, z2⟩)⟩))⟩)
theorem xw_bstep {post : Int32 → Prop} {n r s m : Nat} (T : tr_T c nd en po f_root a_parent a_first a_second a_orientation a_share kd vl) (hw : w0 ≤ 24) (hh : h0 ≤ 12) (N : la_N c nd a_leastWidth a_leastHeight a_rectX a_rectY a_rectW a_rectH w0 h0 X Y W H mw mh) (GG : ge_G c kd en X Y W H) (hr : r < 2 ^ 31) (hs : s < 2 ^ 31) (hm : m < 15)
    (hit : ∀ i, i < c → nd i = m → kd i = 1 → ge_bd kd X Y W H r s i → post 124) (go : (∀ i, i < c → nd i = m → kd i = 1 → ¬ ge_bd kd X Y W H r s i) → wX_borderChar_3 post (nI r) (nI s) f_hostWidth f_hostHeight f_root f_focusedPane f_liveCount a_parent a_first a_second a_orientation a_share a_leastWidth a_leastHeight a_rectX a_rectY a_rectW a_rectH a_order a_live a_screenWidth a_screenHeight a_cursorRow a_cursorCol a_regionTop a_regionBottom a_parserMode a_paramOne a_paramTwo a_paramIndex a_cells n (nI (m + 1))) : wX_borderChar_3 post (nI r) (nI s) f_hostWidth f_hostHeight f_root f_focusedPane f_liveCount a_parent a_first a_second a_orientation a_share a_leastWidth a_leastHeight a_rectX a_rectY a_rectW a_rectH a_order a_live a_screenWidth a_screenHeight a_cursorRow a_cursorCol a_regionTop a_regionBottom a_parserMode a_paramOne a_paramTwo a_paramIndex a_cells (n + 1) (nI m) := by
  obtain ⟨P, T2, T3, T4, T5, T6, T7⟩ := id T
  have v15 := vi_15 hm
  have e := cg_15 hm
  refine br_f (nI_ge (b := 15) hm (by omega)) ⟨v15, ?_⟩
  rw [e]
  by_cases z : a_orientation m = 1
  · have ex : ∃ i, i < c ∧ nd i = m := by
      apply Classical.byContradiction
      intro y
      have := T7 m hm (fun i hi ei => y ⟨i, hi, ei⟩)
      rw [this] at z
      exact absurd z (by decide)
    obtain ⟨i, hi, rfl⟩ := ex
    obtain ⟨t1, t2, t3, t4, t5⟩ := T6 i hi
    have k1 : kd i = 1 := t3.symm.trans z
    obtain ⟨u1, u2, u3, u4, u5, u6⟩ := t5 (ge_10 k1)
    obtain ⟨a1, a2, a3, a4, a5, a6⟩ := ps_nd P hi (ge_10 k1)
    obtain ⟨p1, p2, p3, p4, p5, p6, p7, p8, p9, p10, p11, p12⟩ := N (i + 1) a5
    have f15 := (T6 (i + 1) a5).1
    have uq : ∀ i', i' < c → nd i' = nd i → i' = i := fun i' h' e' => tr_inj T h' hi e'
    refine br_t z (xw_inside hm hw hh N hi hr hs (fun g => br_f (by decide) ⟨v15, nm_r (e' := nI (nd (i + 1))) u3 ⟨vi_15 f15, vi_15 f15, ?_⟩⟩) (fun g => br_t rfl (nm_r (nI_1 _) (go (fun i' h' e' _ => ?_)))))
    · rw [cg_15 f15, p3, p5, nI_add]
      rcases GG i hi (ge_10 k1) with gg | gg
      · refine pk_eq s (X (i + 1) + W (i + 1)) (fun y => hit i hi rfl k1 (Or.inl ⟨k1, ?_⟩)) (fun y => nm_r (nI_1 _) (go (fun i' h' e' _ bd => ?_)))
        · unfold ge_in at g; omega
        · have ei := uq i' h' e'
          subst ei
          rcases bd with bd | bd
          · omega
          · exact ge_12 k1 bd.1
      · exact (ge_12 k1 gg.1).elim
    · intro bd
      have ei := uq i' h' e'
      subst ei
      exact g (ge_bd_in GG hi bd)
  · refine br_f z (nm_r (nI_1 m) (go (fun i hi ei ki => ?_)))
    have := (T6 i hi).2.2.1
    rw [ei, ki] at this
    exact absurd this z
theorem xw_border1 {post : Int32 → Prop} {j r s : Nat} (T : tr_T c nd en po f_root a_parent a_first a_second a_orientation a_share kd vl) (hw : w0 ≤ 24) (hh : h0 ≤ 12) (N : la_N c nd a_leastWidth a_leastHeight a_rectX a_rectY a_rectW a_rectH w0 h0 X Y W H mw mh) (GG : ge_G c kd en X Y W H) (hr : r < 2 ^ 31) (hs : s < 2 ^ 31) (hj : j < c) (kj : kd j = 1) (bd : ge_bd kd X Y W H r s j) (K : post 124) : wpX_borderChar post (f_hostWidth, f_hostHeight, f_root, f_focusedPane, f_liveCount, a_parent, a_first, a_second, a_orientation, a_share, a_leastWidth, a_leastHeight, a_rectX, a_rectY, a_rectW, a_rectH, a_order, a_live, a_screenWidth, a_screenHeight, a_cursorRow, a_cursorCol, a_regionTop, a_regionBottom, a_parserMode, a_paramOne, a_paramTwo, a_paramIndex, a_cells) (nI r) (nI s) := by
  have t := T.2.2.2.2.2.1 j hj
  have j8 := (t.2.2.2.2 (ge_10 kj)).1
  have j15 := t.1
  have main : ∀ dd m, m + dd = nd j → wX_borderChar_3 post (nI r) (nI s) f_hostWidth f_hostHeight f_root f_focusedPane f_liveCount a_parent a_first a_second a_orientation a_share a_leastWidth a_leastHeight a_rectX a_rectY a_rectW a_rectH a_order a_live a_screenWidth a_screenHeight a_cursorRow a_cursorCol a_regionTop a_regionBottom a_parserMode a_paramOne a_paramTwo a_paramIndex a_cells (dd + 1) (nI m) := by
    intro dd
    induction dd with
    | zero =>
      intro m hm
      refine xw_bstep T hw hh N GG hr hs (by omega) (fun i hi ei ki _ => K) (fun no => ?_)
      exact absurd bd (no j hj (by omega) kj)
    | succ dd ih =>
      intro m hm
      exact xw_bstep T hw hh N GG hr hs (by omega) (fun i hi ei ki _ => K) (fun no => ih (m + 1) (by omega))
  obtain ⟨dd, hd⟩ : ∃ dd, 8 + dd = nd j := ⟨nd j - 8, by omega⟩
  exact ⟨dd + 1, main dd 8 hd⟩
theorem xw_border2 {post : Int32 → Prop} {r s : Nat} (T : tr_T c nd en po f_root a_parent a_first a_second a_orientation a_share kd vl) (hw : w0 ≤ 24) (hh : h0 ≤ 12) (N : la_N c nd a_leastWidth a_leastHeight a_rectX a_rectY a_rectW a_rectH w0 h0 X Y W H mw mh) (GG : ge_G c kd en X Y W H) (hr : r < 2 ^ 31) (hs : s < 2 ^ 31) (no : ∀ i, i < c → kd i = 1 → ¬ ge_bd kd X Y W H r s i) (K : post 45) : wpX_borderChar post (f_hostWidth, f_hostHeight, f_root, f_focusedPane, f_liveCount, a_parent, a_first, a_second, a_orientation, a_share, a_leastWidth, a_leastHeight, a_rectX, a_rectY, a_rectW, a_rectH, a_order, a_live, a_screenWidth, a_screenHeight, a_cursorRow, a_cursorCol, a_regionTop, a_regionBottom, a_parserMode, a_paramOne, a_paramTwo, a_paramIndex, a_cells) (nI r) (nI s) := by
  have main : ∀ dd m, m + dd = 15 → wX_borderChar_3 post (nI r) (nI s) f_hostWidth f_hostHeight f_root f_focusedPane f_liveCount a_parent a_first a_second a_orientation a_share a_leastWidth a_leastHeight a_rectX a_rectY a_rectW a_rectH a_order a_live a_screenWidth a_screenHeight a_cursorRow a_cursorCol a_regionTop a_regionBottom a_parserMode a_paramOne a_paramTwo a_paramIndex a_cells (dd + 1) (nI m) := by
    intro dd
    induction dd with
    | zero =>
      intro m hm
      have e : m = 15 := by omega
      subst e
      exact br_t (nI_le (a := 15) (Nat.le_refl _) (by omega)) K
    | succ dd ih =>
      intro m hm
      exact xw_bstep T hw hh N GG hr hs (by omega) (fun i hi ei ki b => absurd b (no i hi ki)) (fun _ => ih (m + 1) (by omega))
  exact ⟨8, main 7 8 (by omega)⟩
end HB
end
section
section NX
variable {f_hostWidth f_hostHeight f_root f_focusedPane f_liveCount : Int32} {a_parent a_first a_second a_orientation a_share a_leastWidth a_leastHeight a_rectX a_rectY a_rectW a_rectH a_order a_live a_screenWidth a_screenHeight a_cursorRow a_cursorCol a_regionTop a_regionBottom a_parserMode a_paramOne a_paramTwo a_paramIndex a_cells : Nat → Int32}
variable {c : Nat} {nd en po : Nat → Nat} {kd vl : Nat → Int32}
theorem xw_fleaf {post : Int32 → Prop} {j d : Nat} (T : tr_T c nd en po f_root a_parent a_first a_second a_orientation a_share kd vl) (h1 : j + d < c) (h2 : kd (j + d) = 0) (h3 : ∀ t, t < d → kd (j + t) ≠ 0) (K : post (nI (nd (j + d)))) : wpX_firstLeaf post (f_hostWidth, f_hostHeight, f_root, f_focusedPane, f_liveCount, a_parent, a_first, a_second, a_orientation, a_share, a_leastWidth, a_leastHeight, a_rectX, a_rectY, a_rectW, a_rectH, a_order, a_live, a_screenWidth, a_screenHeight, a_cursorRow, a_cursorCol, a_regionTop, a_regionBottom, a_parserMode, a_paramOne, a_paramTwo, a_paramIndex, a_cells) (nI (nd j)) := by
  obtain ⟨P, T2, T3, T4, T5, T6, T7⟩ := id T
  have main : ∀ dd t, t + dd = d → wX_firstLeaf_4 post f_hostWidth f_hostHeight f_root f_focusedPane f_liveCount a_parent a_first a_second a_orientation a_share a_leastWidth a_leastHeight a_rectX a_rectY a_rectW a_rectH a_order a_live a_screenWidth a_screenHeight a_cursorRow a_cursorCol a_regionTop a_regionBottom a_parserMode a_paramOne a_paramTwo a_paramIndex a_cells (dd + 1) (nI (nd (j + t))) (nI t) := by
    intro dd
    induction dd with
    | zero =>
      intro t ht
      have e : t = d := by omega
      subst e
      obtain ⟨t1, t2, t3, t4, t5⟩ := T6 (j + t) h1
      refine br_f (nI_ge (b := 15) (by omega) (by omega)) ⟨vi_15 t1, ?_⟩
      rw [cg_15 t1, t3]
      exact br_t h2 K
    | succ dd ih =>
      intro t ht
      have IH := ih (t + 1) (by omega)
      obtain ⟨t1, t2, t3, t4, t5⟩ := T6 (j + t) (by omega)
      have z := h3 t (by omega)
      obtain ⟨u1, u2, u3, u4, u5, u6⟩ := t5 z
      refine br_f (nI_ge (b := 15) (by omega) (by omega)) ⟨vi_15 t1, ?_⟩
      rw [cg_15 t1, t3]
      exact br_f z ⟨vi_15 t1, nm_r u3 (nm_r (nI_1 t) IH)⟩
  exact ⟨d + 1, main d 0 (by omega)⟩
theorem xw_next {post : Int32 → St2 → Prop} {p : Nat} (T : tr_T c nd en po f_root a_parent a_first a_second a_orientation a_share kd vl) (hp : p < c) (kp : kd p = 0) (hf : f_focusedPane = nI (nd p)) (K : ∀ n, fn_N c kd p n → post (nI (nd n)) (f_hostWidth, f_hostHeight, f_root, nI (nd n), f_liveCount, a_parent, a_first, a_second, a_orientation, a_share, a_leastWidth, a_leastHeight, a_rectX, a_rectY, a_rectW, a_rectH, a_order, a_live, a_screenWidth, a_screenHeight, a_cursorRow, a_cursorCol, a_regionTop, a_regionBottom, a_parserMode, a_paramOne, a_paramTwo, a_paramIndex, a_cells)) : wpX_focusNext post (f_hostWidth, f_hostHeight, f_root, f_focusedPane, f_liveCount, a_parent, a_first, a_second, a_orientation, a_share, a_leastWidth, a_leastHeight, a_rectX, a_rectY, a_rectW, a_rectH, a_order, a_live, a_screenWidth, a_screenHeight, a_cursorRow, a_cursorCol, a_regionTop, a_regionBottom, a_parserMode, a_paramOne, a_paramTwo, a_paramIndex, a_cells) := by
  subst hf
  obtain ⟨P, T2, T3, T4, T5, T6, T7⟩ := id T
  subst T3
  have p15 := (T6 p hp).1
  refine ⟨vi_15 p15, ?_⟩
  rw [cg_15 p15]
  refine nm_e ?_
  refine lp2 (fun n q i => wX_focusNext_14 post f_hostWidth f_hostHeight (nI (nd 0)) (nI (nd p)) f_liveCount a_parent a_first a_second a_orientation a_share a_leastWidth a_leastHeight a_rectX a_rectY a_rectW a_rectH a_order a_live a_screenWidth a_screenHeight a_cursorRow a_cursorCol a_regionTop a_regionBottom a_parserMode a_paramOne a_paramTwo a_paramIndex a_cells n (nI (nd q)) (a_parent (nd q)) (nI i)) (fun q i => q < c ∧ en q = p + 1 ∧ i + q ≤ p) (fun q i => q) ?_ p 0 ⟨hp, ps_lf P hp kp, by omega⟩
  intro n q i hI IH
  obtain ⟨i1, i2, i3⟩ := hI
  refine br_f (nI_ge (b := 15) (by omega) (by omega)) ?_
  rcases pu_w T i1 with ⟨q0, e⟩ | ⟨u, hu, hk, uq, e, u15, h⟩
  · rw [e]
    refine br_t rfl (br_t rfl ?_)
    have pc : p + 1 = c := by rw [q0, P.2.1] at i2; exact i2.symm
    obtain ⟨d, d1, d2, d3⟩ := fn_fl P P.1
    unfold wX_focusNext_68
    refine xw_fleaf (j := 0) (d := d) T d1 d2 d3 ?_
    rw [Nat.zero_add] at *
    exact K d (fn_b pc d1 d2 (fun t ht => by have := d3 t ht; rw [Nat.zero_add] at this; exact this))
  · rw [e]
    have nm := tr_m1 (n := nd u) (by omega)
    obtain ⟨a1, a2, a3, a4, a5, a6⟩ := ps_nd P hu hk
    obtain ⟨w1, w2, w3, w4, w5, w6⟩ := (T6 u hu).2.2.2.2 hk
    refine br_f nm ⟨vi_15 u15, ?_⟩
    rw [cg_15 u15, w4]
    rcases h with ⟨hq, _⟩ | ⟨hq, _⟩
    · have ne : ¬ nI (nd (en (u + 1))) = nI (nd q) := by
        intro y
        have b1 := (T6 _ a6).1
        have b2 := (T6 _ i1).1
        have := tr_inj T a6 i1 ((nI_eq (by omega) (by omega)).mp y)
        omega
      refine br_f ne (br_f nm ⟨vi_15 u15, ?_⟩)
      rw [cg_15 u15, w4]
      have ep : en (u + 1) = p + 1 := by rw [← hq]; exact i2
      rw [ep] at a6 ⊢
      obtain ⟨d, d1, d2, d3⟩ := fn_fl P a6
      unfold wX_focusNext_68
      exact xw_fleaf T d1 d2 d3 (K _ (fn_a d1 d2 d3))
    · refine br_t (by rw [hq]) ⟨vi_15 u15, ?_⟩
      refine nm_e (nm_r (nI_1 i) (IH u (i + 1) ⟨hu, ?_, by omega⟩ uq))
      rw [← a4, ← hq]; exact i2
end NX
end
section
section SH
variable {f_hostWidth f_hostHeight f_root f_focusedPane f_liveCount : Int32} {a_parent a_first a_second a_orientation a_share a_leastWidth a_leastHeight a_rectX a_rectY a_rectW a_rectH a_order a_live a_screenWidth a_screenHeight a_cursorRow a_cursorCol a_regionTop a_regionBottom a_parserMode a_paramOne a_paramTwo a_paramIndex a_cells : Nat → Int32}
variable {c : Nat} {nd en po : Nat → Nat} {kd vl : Nat → Int32}
theorem xw_climb {post : Int32 → St2 → Prop} {p : Nat} {o pc : Int32} (T : tr_T c nd en po f_root a_parent a_first a_second a_orientation a_share kd vl) (hp : p < c) (kp : kd p = 0) (ho : o ≠ 0) (hf : f_focusedPane = nI (nd p)) (K0 : an_0 kd en o p → post 0 (f_hostWidth, f_hostHeight, f_root, f_focusedPane, f_liveCount, a_parent, a_first, a_second, a_orientation, a_share, a_leastWidth, a_leastHeight, a_rectX, a_rectY, a_rectW, a_rectH, a_order, a_live, a_screenWidth, a_screenHeight, a_cursorRow, a_cursorCol, a_regionTop, a_regionBottom, a_parserMode, a_paramOne, a_paramTwo, a_paramIndex, a_cells)) (K1 : ∀ b, an_B kd en o p b → wX_setShare_60 post pc (nI (nd b)) f_hostWidth f_hostHeight f_root f_focusedPane f_liveCount a_parent a_first a_second a_orientation a_share a_leastWidth a_leastHeight a_rectX a_rectY a_rectW a_rectH a_order a_live a_screenWidth a_screenHeight a_cursorRow a_cursorCol a_regionTop a_regionBottom a_parserMode a_paramOne a_paramTwo a_paramIndex a_cells) : wX_setShare_12 post o pc f_hostWidth f_hostHeight f_root f_focusedPane f_liveCount a_parent a_first a_second a_orientation a_share a_leastWidth a_leastHeight a_rectX a_rectY a_rectW a_rectH a_order a_live a_screenWidth a_screenHeight a_cursorRow a_cursorCol a_regionTop a_regionBottom a_parserMode a_paramOne a_paramTwo a_paramIndex a_cells := by
  subst hf
  obtain ⟨P, T2, T3, T4, T5, T6, T7⟩ := id T
  have p15 := (T6 p hp).1
  refine ⟨vi_15 p15, ?_⟩
  rw [cg_15 p15]
  refine nm_e ?_
  have pe := (P.2.2 p hp).1
  refine lp2 (fun n q i => wX_setShare_25 post o pc f_hostWidth f_hostHeight f_root (nI (nd p)) f_liveCount a_parent a_first a_second a_orientation a_share a_leastWidth a_leastHeight a_rectX a_rectY a_rectW a_rectH a_order a_live a_screenWidth a_screenHeight a_cursorRow a_cursorCol a_regionTop a_regionBottom a_parserMode a_paramOne a_paramTwo a_paramIndex a_cells n (a_parent (nd q)) (nI i)) (fun q i => q < c ∧ an_I kd en o p q ∧ i + q ≤ p) (fun q i => q) ?_ p 0 ⟨hp, ⟨Nat.le_refl _, pe, fun j h1 h2 => by omega⟩, by omega⟩
  intro n q i hI IH
  obtain ⟨i1, i2, i3⟩ := hI
  refine br_f (nI_ge (b := 15) (by omega) (by omega)) ?_
  rcases pu_w T i1 with ⟨q0, e⟩ | ⟨u, hu, hk, uq, e, u15, h⟩
  · rw [e]
    subst q0
    exact br_t rfl (br_t rfl (K0 (fun j hj => i2.2.2 j (Nat.zero_le _) hj)))
  · rw [e]
    have nm := tr_m1 (n := nd u) (by omega)
    have ch : ps_ch kd en c u q := ⟨hu, hk, by rcases h with h | h; exact Or.inl h.1; exact Or.inr h.1⟩
    refine br_f nm ⟨vi_15 u15, ?_⟩
    rw [cg_15 u15, (T6 u hu).2.2.1]
    by_cases z : kd u = o
    · exact br_t z (K1 u (an_hit P i2 ch z))
    · exact br_f z ⟨vi_15 u15, nm_e (nm_r (nI_1 i) (IH u (i + 1) ⟨hu, an_up P i2 ch z, by omega⟩ uq))⟩
end SH
end
section
theorem in_P : ps_P 1 (fun _ => (0 : Int32)) (fun _ => 1) := by
  refine ⟨by omega, rfl, fun i hi => ⟨hi, Nat.le_refl _, fun _ => show 1 = i + 1 by omega, fun z => absurd rfl z⟩⟩
theorem in_T : tr_T 1 (fun _ => 0) (fun _ => 1) (fun _ => 0) 0 (upd (fun _ => 0) 0 (-1)) (fun _ => 0) (fun _ => 0) (fun _ => 0) (fun _ => 0) (fun _ => (0 : Int32)) (fun _ => 0) := by
  refine ⟨in_P, by omega, rfl, pk_us, fun i _ => Or.inl rfl, fun i hi => ?_, fun n _ _ => rfl⟩
  have e : i = 0 := by omega
  subst e
  exact ⟨show 0 < 15 by omega, rfl, rfl, fun _ => ⟨show 0 < 8 by omega, rfl⟩, fun z => absurd rfl z⟩
theorem in_V : lv_R 1 (fun _ => 0) (upd (fun _ => 0) 0 1) := by
  intro g hg
  by_cases z : g = 0
  · subst z
    rw [pk_us]
    exact ⟨Or.inr rfl, fun _ => ⟨0, by omega, rfl⟩, fun _ => by decide⟩
  · rw [pk_un z]
    exact ⟨Or.inl rfl, fun y => absurd rfl y, fun ⟨i, _, e⟩ => absurd e.symm z⟩
end
section
theorem rl_Gcg {c : Nat} {nd en po : Nat → Nat} {w0 h0 : Nat} {root : Int32} {pa fi se ori sr lw lh rx ry rw rh kd vl lv kd' vl' : Nat → Int32} (hk : ∀ j, j < c → kd' j = kd j) (hv : ∀ j, j < c → vl' j = vl j) (G : rl_G c nd en po w0 h0 root pa fi se ori sr lw lh rx ry rw rh kd vl lv) : rl_G c nd en po w0 h0 root pa fi se ori sr lw lh rx ry rw rh kd' vl' lv := by
  obtain ⟨T, L, E, g1, g2, g3, g4, g5, g6, g7⟩ := G
  obtain ⟨P, T2, T3, T4, T5, T6, T7⟩ := T
  refine ⟨⟨⟨P.1, P.2.1, fun i hi => by rw [hk i hi]; exact P.2.2 i hi⟩, T2, T3, T4, fun i hi => by rw [hk i hi, hv i hi]; exact T5 i hi, fun i hi => ?_, T7⟩, fun i hi => ?_, ⟨E.1, E.2.1, E.2.2.1, E.2.2.2.1, fun i hi => ?_⟩, g1, g2, g3, g4, g5, g6, g7⟩
  · unfold tr_t; rw [hk i hi, hv i hi]; exact T6 i hi
  · unfold la_l; rw [hk i hi]; exact L i hi
  · unfold la_e; rw [hk i hi, hv i hi]; exact E.2.2.2.2 i hi
theorem lv_split {c p N g : Nat} {nd : Nat → Nat} {lv : Nat → Int32} (V : lv_R c nd lv) (hp : p < c) (hN : 8 ≤ N) (hg : g < 8) (h0 : lv g = 0) : lv_R (c + 2) (sp_f p N (nd p) g nd) (upd lv g 1) := by
  intro x hx
  by_cases z : x = g
  · subst z
    rw [pk_us]
    exact ⟨Or.inr rfl, fun _ => ⟨p + 2, by omega, sp_f2⟩, fun _ => by decide⟩
  · rw [pk_un z]
    refine ⟨(V x hx).1, fun h => ?_, fun h => ?_⟩
    · obtain ⟨i, hi, e⟩ := (V x hx).2.mp h
      by_cases y : i = p
      · subst y; exact ⟨i + 1, by omega, by rw [sp_f1]; exact e⟩
      · exact ⟨sp_s p i, by unfold sp_s; split <;> omega, by rw [sp_fs y]; exact e⟩
    · obtain ⟨i', hi', e⟩ := h
      rcases sp_cov hp hi' with e1 | e1 | ⟨i, hi, e1⟩
      · subst e1; rw [sp_f1] at e; exact (V x hx).2.mpr ⟨p, hp, e⟩
      · subst e1; rw [sp_f2] at e; exact absurd e.symm z
      · subst e1
        by_cases y : i = p
        · subst y; rw [sp_sl (Nat.le_refl _), sp_f0] at e; omega
        · rw [sp_fs y] at e; exact (V x hx).2.mpr ⟨i, hi, e⟩
theorem sp_T {c p N g : Nat} {nd en po : Nat → Nat} {root root' o : Int32} {pa fi se ori sh kd vl fi' se' : Nat → Int32} (T : tr_T c nd en po root pa fi se ori sh kd vl)
    (hc : c ≤ 13) (hp : p < c) (hk : kd p = 0) (ho : o = 1 ∨ o = 2) (hN : 8 ≤ N ∧ N < 15) (hN' : ∀ i, i < c → nd i ≠ N) (hg : g < 8) (hg' : ∀ i, i < c → nd i ≠ g) (S : pu_S c nd en kd fi se fi' se' root root' (nI N) p) :
    tr_T (c + 2) (sp_f p N (nd p) g nd) (sp_f p (p + 3) (p + 2) (p + 3) (fun j => sp_s p (en j))) (fun n => if n = N then p else if n = nd p then p + 1 else if n = g then p + 2 else sp_s p (po n)) root' (upd (upd (upd pa N (pa (nd p))) (nd p) (nI N)) g (nI N)) (upd fi' N (nI (nd p))) (upd se' N (nI g)) (upd ori N o) (upd sh N 50) (sp_f p o 0 0 kd) (sp_f p 50 (nI (nd p)) (nI g) vl) := by
  obtain ⟨S1, S2, S3, S4⟩ := S
  have gN : g ≠ N := by omega
  have pN := hN' p hp
  have pg := hg' p hp
  refine tr_split T hc hp hk ho hN hN' hg hg' (fun j _ => rfl) (fun j _ => rfl) S1 (fun j hj hkj => ?_) pk_us (fun j hj hkj => ?_) pk_us (fun j hj hjp => ?_) ?_ ?_ pk_us (fun n hn => pk_un hn) pk_us (fun n hn => pk_un hn) pk_us
  · rw [pk_un (hN' j hj)]; exact S2 j hj hkj
  · rw [pk_un (hN' j hj)]; exact S3 j hj hkj
  · rw [pk_un (hg' j hj), pk_un (fun e => hjp (tr_inj T hj hp e)), pk_un (hN' j hj)]
  · rw [pk_un (fun e => gN e.symm), pk_un (fun e => pN e.symm), pk_us]
  · rw [pk_un pg, pk_us]
section SP
variable {f_hostWidth f_hostHeight f_root f_focusedPane f_liveCount : Int32} {a_parent a_first a_second a_orientation a_share a_leastWidth a_leastHeight a_rectX a_rectY a_rectW a_rectH a_order a_live a_screenWidth a_screenHeight a_cursorRow a_cursorCol a_regionTop a_regionBottom a_parserMode a_paramOne a_paramTwo a_paramIndex a_cells : Nat → Int32}
variable {c : Nat} {nd en po : Nat → Nat} {kd vl : Nat → Int32}
theorem xw_lfree {post : Int32 → Prop} (K0 : (∀ g, g < 8 → a_live g ≠ 0) → post (-1)) (K1 : ∀ g, g < 8 → a_live g = 0 → (∀ i, i < g → a_live i ≠ 0) → post (nI g)) : wpX_leastFreePane post (f_hostWidth, f_hostHeight, f_root, f_focusedPane, f_liveCount, a_parent, a_first, a_second, a_orientation, a_share, a_leastWidth, a_leastHeight, a_rectX, a_rectY, a_rectW, a_rectH, a_order, a_live, a_screenWidth, a_screenHeight, a_cursorRow, a_cursorCol, a_regionTop, a_regionBottom, a_parserMode, a_paramOne, a_paramTwo, a_paramIndex, a_cells) := by
  have main : ∀ dd i, i + dd = 8 → (∀ j, j < i → a_live j ≠ 0) → wX_leastFreePane_2 post f_hostWidth f_hostHeight f_root f_focusedPane f_liveCount a_parent a_first a_second a_orientation a_share a_leastWidth a_leastHeight a_rectX a_rectY a_rectW a_rectH a_order a_live a_screenWidth a_screenHeight a_cursorRow a_cursorCol a_regionTop a_regionBottom a_parserMode a_paramOne a_paramTwo a_paramIndex a_cells (dd + 1) (nI i) := by
    intro dd
    induction dd with
    | zero =>
      intro i hi h
      have e : i = 8 := by omega
      subst e
      exact br_t (nI_le (a := 8) (Nat.le_refl _) (by omega)) (K0 h)
    | succ dd ih =>
      intro i hi h
      have h8 : i < 8 := by omega
      refine br_f (nI_ge (b := 8) h8 (by omega)) ⟨vi_8 h8, ?_⟩
      rw [cg_8 h8]
      by_cases z : a_live i = 0
      · exact br_t z (K1 i h8 z h)
      · refine br_f z (nm_r (nI_1 i) (ih (i + 1) (by omega) (fun j hj => ?_)))
        by_cases y : j = i
        · rw [y]; exact z
        · exact h j (by omega)
  exact ⟨9, main 8 0 (by omega) (fun j hj => by omega)⟩
theorem xw_fnode {post : Int32 → Prop} (T : tr_T c nd en po f_root a_parent a_first a_second a_orientation a_share kd vl) (hc : c ≤ 13) (K : ∀ n, 8 ≤ n → n < 15 → (∀ i, i < c → nd i ≠ n) → post (nI n)) : wpX_freeSplitNode post (f_hostWidth, f_hostHeight, f_root, f_focusedPane, f_liveCount, a_parent, a_first, a_second, a_orientation, a_share, a_leastWidth, a_leastHeight, a_rectX, a_rectY, a_rectW, a_rectH, a_order, a_live, a_screenWidth, a_screenHeight, a_cursorRow, a_cursorCol, a_regionTop, a_regionBottom, a_parserMode, a_paramOne, a_paramTwo, a_paramIndex, a_cells) := by
  have main : ∀ dd i, i + dd = 14 → 8 ≤ i → (∀ j, 8 ≤ j → j < i → a_orientation j ≠ 0) → wX_freeSplitNode_3 post f_hostWidth f_hostHeight f_root f_focusedPane f_liveCount a_parent a_first a_second a_orientation a_share a_leastWidth a_leastHeight a_rectX a_rectY a_rectW a_rectH a_order a_live a_screenWidth a_screenHeight a_cursorRow a_cursorCol a_regionTop a_regionBottom a_parserMode a_paramOne a_paramTwo a_paramIndex a_cells (dd + 1) (nI i) := by
    intro dd
    induction dd with
    | zero =>
      intro i hi i8 h
      have e : i = 14 := by omega
      subst e
      exact br_t (nI_le (a := 14) (Nat.le_refl _) (by omega)) (K 14 (by omega) (by omega) (lv_last T hc h))
    | succ dd ih =>
      intro i hi i8 h
      have h15 : i < 15 := by omega
      refine br_f (nI_ge (b := 14) (by omega) (by omega)) ⟨vi_15 h15, ?_⟩
      rw [cg_15 h15]
      by_cases z : a_orientation i = 0
      · exact br_t z (K i i8 h15 (lv_node T i8 z))
      · refine br_f z (nm_r (nI_1 i) (ih (i + 1) (by omega) (by omega) (fun j j8 hj => ?_)))
        by_cases y : j = i
        · rw [y]; exact z
        · exact h j j8 (by omega)
  exact ⟨7, main 6 8 (by omega) (by omega) (fun j h1 h2 => by omega)⟩
theorem xw_put {post : St2 → Prop} {q m : Nat} (T : tr_T c nd en po f_root a_parent a_first a_second a_orientation a_share kd vl) (hq : q < c) (hm : m < 15) (K : ∀ root' fi' se', pu_S c nd en kd a_first a_second fi' se' f_root root' (nI m) q → post (f_hostWidth, f_hostHeight, root', f_focusedPane, f_liveCount, upd a_parent m (a_parent (nd q)), fi', se', a_orientation, a_share, a_leastWidth, a_leastHeight, a_rectX, a_rectY, a_rectW, a_rectH, a_order, a_live, a_screenWidth, a_screenHeight, a_cursorRow, a_cursorCol, a_regionTop, a_regionBottom, a_parserMode, a_paramOne, a_paramTwo, a_paramIndex, a_cells)) : wpX_putInPlace post (f_hostWidth, f_hostHeight, f_root, f_focusedPane, f_liveCount, a_parent, a_first, a_second, a_orientation, a_share, a_leastWidth, a_leastHeight, a_rectX, a_rectY, a_rectW, a_rectH, a_order, a_live, a_screenWidth, a_screenHeight, a_cursorRow, a_cursorCol, a_regionTop, a_regionBottom, a_parserMode, a_paramOne, a_paramTwo, a_paramIndex, a_cells) (nI (nd q)) (nI m) := by
  have q15 := (T.2.2.2.2.2.1 q hq).1
  have e := cg_15 q15
  refine ⟨vi_15 q15, nm_r (e' := a_parent (nd q)) (by rw [e]) ⟨vi_15 hm, nm_r (e' := upd a_parent m (a_parent (nd q))) (by rw [cg_15 hm]) ?_⟩⟩
  rcases pu_w T hq with ⟨q0, ep⟩ | ⟨u, hu, hk, uq, ep, u15, h⟩
  · have k := K (nI m) a_first a_second (by rw [q0]; exact pu_0 T)
    exact br_t ep k
  · have nm := tr_m1 (n := nd u) (by omega)
    refine br_f (by rw [ep]; exact nm) ?_
    rw [ep] at K ⊢
    refine ⟨vi_15 u15, ?_⟩
    rw [cg_15 u15]
    rcases h with ⟨hq1, hf⟩ | ⟨hq1, hf, hne, h15, _⟩
    · exact br_t hf ⟨vi_15 u15, nm_e (K f_root (upd a_first (nd u) (nI m)) a_second (by rw [hq1]; exact pu_1 T hu hk))⟩
    · refine br_f (fun z => hne ?_) ⟨vi_15 u15, nm_e (K f_root a_first (upd a_second (nd u) (nI m)) (by rw [hq1]; exact pu_2 T hu hk))⟩
      rw [hf] at z
      exact (nI_eq (by omega) (by omega)).mp z
end SP
end
section
theorem lv_close {c u p s : Nat} {nd en po : Nat → Nat} {root : Int32} {pa fi se ori sr kd vl lv : Nat → Int32} (T : tr_T c nd en po root pa fi se ori sr kd vl) (F : cl_F c kd en u p s) (V : lv_R c nd lv) (p8 : nd p < 8) : lv_R (c - 2) (fun j => nd (cl_r u p j)) (upd lv (nd p) 0) := by
  obtain ⟨P, f1, f2, f3, f4, f5, f6, f7, f8, f9, f10⟩ := id F
  intro x hx
  by_cases z : x = nd p
  · subst z
    rw [pk_us]
    refine ⟨Or.inl rfl, fun y => absurd rfl y, fun ⟨i, hi, e⟩ => ?_⟩
    have r := cl_rn (P := u) (p := p) (j := i) f6
    have := tr_inj T (by omega) f4 e
    exact absurd this r.2.1
  · rw [pk_un z]
    refine ⟨(V x hx).1, fun h => ?_, fun h => ?_⟩
    · obtain ⟨i, hi, e⟩ := (V x hx).2.mp h
      have ip : i ≠ p := fun y => z (by rw [← e, y])
      have iu : i ≠ u := by
        intro y
        have := ((T.2.2.2.2.2.1 u f1).2.2.2.2 f2).1
        rw [← y, e] at this
        omega
      refine ⟨cl_d u p i, cl_lt F hi ip, ?_⟩
      show nd (cl_r u p (cl_d u p i)) = x
      rw [cl_rt F ip, if_neg iu]
      exact e
    · obtain ⟨i, hi, e⟩ := h
      have r := cl_rn (P := u) (p := p) (j := i) f6
      exact (V x hx).2.mpr ⟨cl_r u p i, by omega, e⟩
end
section
section CM
variable {a_kind a_val : Nat → Int32}
variable {f_hostWidth f_hostHeight f_root f_focusedPane f_liveCount : Int32} {a_parent a_first a_second a_orientation a_share a_leastWidth a_leastHeight a_rectX a_rectY a_rectW a_rectH a_order a_live a_screenWidth a_screenHeight a_cursorRow a_cursorCol a_regionTop a_regionBottom a_parserMode a_paramOne a_paramTwo a_paramIndex a_cells : Nat → Int32}
variable {k : Nat} {c : Nat} {nd en po : Nat → Nat} {w0 h0 : Nat}
theorem xw_fleaf2 {post : Int32 → Prop} {kd vl : Nat → Int32} {x y : Int32} {j d : Nat} (T : tr_T c nd en po f_root a_parent a_first a_second a_orientation a_share kd vl) (hx : x = nI (nd j)) (hy : y = nI (nd (j + d))) (h1 : j + d < c) (h2 : kd (j + d) = 0) (h3 : ∀ t, t < d → kd (j + t) ≠ 0) (K : post y) : wpX_firstLeaf post (f_hostWidth, f_hostHeight, f_root, f_focusedPane, f_liveCount, a_parent, a_first, a_second, a_orientation, a_share, a_leastWidth, a_leastHeight, a_rectX, a_rectY, a_rectW, a_rectH, a_order, a_live, a_screenWidth, a_screenHeight, a_cursorRow, a_cursorCol, a_regionTop, a_regionBottom, a_parserMode, a_paramOne, a_paramTwo, a_paramIndex, a_cells) x := by
  subst hx hy
  exact xw_fleaf T h1 h2 h3 K
theorem xw_45 {post : Int32 → St2 → Prop} {u p s d : Nat} {yx yy yw yh xc yc : Nat → Int32} (G : rl_G c nd en po w0 h0 f_root a_parent a_first a_second a_orientation a_share a_leastWidth a_leastHeight a_rectX a_rectY a_rectW a_rectH a_kind a_val a_live) (F : cl_F c a_kind en u p s) (p8 : nd p < 8)
    (Pn : ∀ g, g < 8 → rl_p a_live a_rectX a_rectY a_rectW a_rectH a_screenWidth a_screenHeight yx yy yw yh a_cursorRow a_cursorCol a_regionTop a_regionBottom a_parserMode a_paramOne a_paramTwo a_paramIndex xc yc g)
    (d1 : s + d < en s) (d2 : a_kind (s + d) = 0) (d3 : ∀ t, t < d → a_kind (s + t) ≠ 0)
    (K : ∀ (root' : Int32) (pa' fi' se' ori' lw lh rx ry rw rh ord : Nat → Int32), rl_G (c - 2) (fun j => nd (cl_r u p j)) (fun j => cl_d u p (en (cl_r u p j))) (fun n => cl_d u p (po n)) w0 h0 root' pa' fi' se' ori' a_share lw lh rx ry rw rh (fun j => a_kind (cl_r u p j)) (fun j => a_val (cl_r u p j)) (upd a_live (nd p) 0) →
      fi_F (upd a_live (nd p) 0) a_screenWidth a_screenHeight rw rh (fi_k a_screenWidth rw) (fi_k a_screenHeight rh) →
      post 1 (nI w0, nI h0, root', nI (nd (s + d)), f_liveCount - 1, pa', fi', se', ori', a_share, lw, lh, rx, ry, rw, rh, ord, upd a_live (nd p) 0, fi_A (upd a_live (nd p) 0) 8 rw a_screenWidth, fi_A (upd a_live (nd p) 0) 8 rh a_screenHeight, fi_A (upd a_live (nd p) 0) 8 (fi_r a_cursorRow rh) a_cursorRow, fi_A (upd a_live (nd p) 0) 8 (fi_r a_cursorCol rw) a_cursorCol, fi_A (upd a_live (nd p) 0) 8 (fi_t a_regionTop a_regionBottom rh) a_regionTop, fi_A (upd a_live (nd p) 0) 8 (fi_b a_regionBottom rh) a_regionBottom, a_parserMode, a_paramOne, a_paramTwo, a_paramIndex, ce_w (fi_S (upd a_live (nd p) 0) (fi_k a_screenWidth rw) (fi_k a_screenHeight rh) 8) a_cells)) :
    wX_close_45 post (nI (nd u)) (nI (nd s)) (nI w0) (nI h0) f_root (nI (nd p)) f_liveCount a_parent a_first a_second a_orientation a_share a_leastWidth a_leastHeight a_rectX a_rectY a_rectW a_rectH a_order a_live a_screenWidth a_screenHeight a_cursorRow a_cursorCol a_regionTop a_regionBottom a_parserMode a_paramOne a_paramTwo a_paramIndex a_cells := by
  obtain ⟨T, L, E, g1, g2, g3, g4, g5, g6, g7⟩ := id G
  obtain ⟨P, T2, T3, T4, T5, T6, T7⟩ := id T
  obtain ⟨_, f1, f2, f3, f4, f5, f6, f7, f8, f9, f10⟩ := id F
  obtain ⟨r1, r2, r3, r4, r5, r6⟩ := cl_seg F
  have s15 := (T6 s f5).1
  have u15 := (T6 u f1).1
  have vu : vp_in (nI (nd u)) 15 := vi_15 u15
  have cu : (nI (nd u)).toNatClampNeg = nd u := cg_15 u15
  have c8p : (nI (nd p)).toNatClampNeg = nd p := cg_8 p8
  have rt : ∀ t, t ≤ d → cl_r u p (u + t) = s + t := by
    intro t ht
    have := r2 (s + t) (by omega) (by omega)
    rw [show u + (s + t - s) = u + t by omega] at this
    exact this
  unfold wX_close_45
  refine xw_put T f1 s15 (fun root' fi' se' S => ?_)
  obtain ⟨S1, S2, S3, S4⟩ := S
  have T' := tr_close T F (kd' := fun j => a_kind (cl_r u p j)) (vl' := fun j => a_val (cl_r u p j)) (root' := root') (pa' := upd a_parent (nd s) (a_parent (nd u))) (fi' := fi') (se' := se') (ori' := upd a_orientation (nd u) 0) (fun j _ => rfl) (fun j _ => rfl) S1 (fun j hj _ hkj => S2 j hj hkj) (fun j hj _ hkj => S3 j hj hkj) (fun j hj hjs => pk_un (fun e => hjs (tr_inj T hj f5 e))) pk_us (fun n hn => pk_un hn) pk_us
  have V' := lv_close T F g7 p8
  refine ⟨vu, nm_r (e' := upd a_orientation (nd u) 0) (by rw [cu]) ⟨vi_8 p8, nm_r (e' := upd a_live (nd p) 0) (by rw [c8p]) (nm_e (xw_fleaf2 (y := nI (nd (s + d))) (j := u) (d := d) T' ?_ ?_ (by omega) ?_ (fun t ht => ?_) (xw_layOut T' (fun lw lh rx ry rw rh ord L' E' => ?_))))⟩⟩
  · show nI (nd s) = nI (nd (cl_r u p u))
    rw [cl_r0 F]
  · show nI (nd (s + d)) = nI (nd (cl_r u p (u + d)))
    rw [rt d (Nat.le_refl _)]
  · show a_kind (cl_r u p (u + d)) = 0
    rw [rt d (Nat.le_refl _)]
    exact d2
  · show a_kind (cl_r u p (u + t)) ≠ 0
    rw [rt t (by omega)]
    exact d3 t ht
  · obtain ⟨X, Y, W, H, mw, mh, N, GG⟩ := rl_nat G
    obtain ⟨ma, mb, m1, m2, m3, m4⟩ := cl_min (nd' := fun j => nd (cl_r u p j)) F T5 g2 g4 L N (fun j _ => rfl) L'
    have G' : rl_G (c - 2) (fun j => nd (cl_r u p j)) (fun j => cl_d u p (en (cl_r u p j))) (fun n => cl_d u p (po n)) w0 h0 root' (upd a_parent (nd s) (a_parent (nd u))) fi' se' (upd a_orientation (nd u) 0) a_share lw lh rx ry rw rh (fun j => a_kind (cl_r u p j)) (fun j => a_val (cl_r u p j)) (upd a_live (nd p) 0) :=
      ⟨T', L', E', g1, g2, g3, g4, rl_ex ⟨ma, m1, m3⟩ g2, rl_ex ⟨mb, m2, m4⟩ (by omega), V'⟩
    have dn : ∀ x, upd a_live (nd p) 0 x ≠ 0 → a_live x ≠ 0 := by
      intro x hx
      by_cases z : x = nd p
      · rw [z, pk_us] at hx; exact absurd rfl hx
      · rw [pk_un z] at hx; exact hx
    have Fi := rl_F (dv := upd a_live (nd p) 0) G' (fun x hx hl => ⟨dn x hl, hl⟩) Pn
    exact xw_fits Fi (K root' _ fi' se' _ lw lh rx ry rw rh ord G' Fi)
end CM
end
section
/-- two layouts of one tree agree, whatever the nodes' numbers are -/
theorem pr_un {c : Nat} {nd nb en po pb : Nat → Nat} {w0 h0 : Nat} {root root' : Int32} {pa fi se ori sr lw lh rx ry rw rh kd vl lv pa' fi' se' ori' sr' lw' lh' rx' ry' rw' rh' lv' : Nat → Int32} (Ga : rl_G c nd en po w0 h0 root pa fi se ori sr lw lh rx ry rw rh kd vl lv) (Gb : rl_G c nb en pb w0 h0 root' pa' fi' se' ori' sr' lw' lh' rx' ry' rw' rh' kd vl lv') :
    (∀ i, i < c → lw' (nb i) = lw (nd i) ∧ lh' (nb i) = lh (nd i) ∧ rx' (nb i) = rx (nd i) ∧ ry' (nb i) = ry (nd i) ∧ rw' (nb i) = rw (nd i) ∧ rh' (nb i) = rh (nd i)) ∧ (∀ q, q < c → kd q = 0 → nb q = nd q) := by
  obtain ⟨T, L, E, g1, g2, g3, g4, g5, g6, g7⟩ := Ga
  obtain ⟨Tb, Lb, Eb, b1, b2, b3, b4, b5, b6, b7⟩ := Gb
  have P := T.1
  have K := T.2.2.2.2.1
  have M := ps_up P (Q := fun i => lw' (nb i) = lw (nd i) ∧ lh' (nb i) = lh (nd i))
    (fun i hi hk => ⟨((Lb i hi).1 hk).1.trans ((L i hi).1 hk).1.symm, ((Lb i hi).1 hk).2.trans ((L i hi).1 hk).2.symm⟩)
    (fun i hi hk q1 q2 => by
      obtain ⟨_, l1, l2⟩ := L i hi
      obtain ⟨_, m1, m2⟩ := Lb i hi
      rw [q1.1, q1.2, q2.1, q2.2] at m1 m2
      rcases K i hi with z | ⟨z | z, _⟩
      · exact absurd z hk
      · exact ⟨(m1 z).1.trans (l1 z).1.symm, (m1 z).2.trans (l1 z).2.symm⟩
      · exact ⟨(m2 z).1.trans (l2 z).1.symm, (m2 z).2.trans (l2 z).2.symm⟩)
  obtain ⟨E1, E2, E3, E4, E5⟩ := E
  obtain ⟨F1, F2, F3, F4, F5⟩ := Eb
  have D := ps_down P (Q := fun i => rx' (nb i) = rx (nd i) ∧ ry' (nb i) = ry (nd i) ∧ rw' (nb i) = rw (nd i) ∧ rh' (nb i) = rh (nd i))
    ⟨F1.trans E1.symm, F2.trans E2.symm, F3.trans E3.symm, F4.trans E4.symm⟩
    (fun i hi hk q => by
      obtain ⟨q1, q2, q3, q4⟩ := q
      obtain ⟨a1, a2, a3, a4, a5, a6⟩ := ps_nd P hi hk
      have m1 := M (i + 1) a5
      have m2 := M (en (i + 1)) a6
      obtain ⟨x1, x2⟩ := E5 i hi
      obtain ⟨y1, y2⟩ := F5 i hi
      rw [m1.1, m2.1, q1, q2, q3, q4] at y1
      rw [m1.2, m2.2, q1, q2, q3, q4] at y2
      rcases K i hi with z | ⟨z | z, _⟩
      · exact absurd z hk
      · obtain ⟨s1, s2, s3, s4, s5, s6, s7, s8⟩ := x1 z
        obtain ⟨t1, t2, t3, t4, t5, t6, t7, t8⟩ := y1 z
        exact ⟨⟨t1.trans s1.symm, t2.trans s2.symm, t3.trans s3.symm, t4.trans s4.symm⟩, ⟨t5.trans s5.symm, t6.trans s6.symm, t7.trans s7.symm, t8.trans s8.symm⟩⟩
      · obtain ⟨s1, s2, s3, s4, s5, s6, s7, s8⟩ := x2 z
        obtain ⟨t1, t2, t3, t4, t5, t6, t7, t8⟩ := y2 z
        exact ⟨⟨t1.trans s1.symm, t2.trans s2.symm, t3.trans s3.symm, t4.trans s4.symm⟩, ⟨t5.trans s5.symm, t6.trans s6.symm, t7.trans s7.symm, t8.trans s8.symm⟩⟩)
  refine ⟨fun i hi => ⟨(M i hi).1, (M i hi).2, D i hi⟩, fun q hq hk => ?_⟩
  have h1 := (T.2.2.2.2.2.1 q hq).2.2.2.1 hk
  have h2 := (Tb.2.2.2.2.2.1 q hq).2.2.2.1 hk
  exact (nI_eq (by omega) (by omega)).mp (h2.2.symm.trans h1.2)
theorem pr_RE {c : Nat} {nd nb en po pb : Nat → Nat} {w0 h0 : Nat} {root root' : Int32} {pa fi se ori sr lw lh rx ry rw rh kd vl lv pa' fi' se' ori' sr' lw' lh' rx' ry' rw' rh' lv' : Nat → Int32} (Ga : rl_G c nd en po w0 h0 root pa fi se ori sr lw lh rx ry rw rh kd vl lv) (Gb : rl_G c nb en pb w0 h0 root' pa' fi' se' ori' sr' lw' lh' rx' ry' rw' rh' kd vl lv') :
    ∀ q, q < c → kd q = 0 → rx' (nd q) = rx (nd q) ∧ ry' (nd q) = ry (nd q) ∧ rw' (nd q) = rw (nd q) ∧ rh' (nd q) = rh (nd q) := by
  intro q hq hk
  obtain ⟨A, B⟩ := pr_un Ga Gb
  have a := A q hq
  rw [B q hq hk] at a
  exact ⟨a.2.2.1, a.2.2.2.1, a.2.2.2.2.1, a.2.2.2.2.2⟩
theorem pr_live {c : Nat} {nd nb en po pb : Nat → Nat} {w0 h0 : Nat} {root root' : Int32} {pa fi se ori sr lw lh rx ry rw rh kd vl lv pa' fi' se' ori' sr' lw' lh' rx' ry' rw' rh' lv' : Nat → Int32} (Ga : rl_G c nd en po w0 h0 root pa fi se ori sr lw lh rx ry rw rh kd vl lv) (Gb : rl_G c nb en pb w0 h0 root' pa' fi' se' ori' sr' lw' lh' rx' ry' rw' rh' kd vl lv') :
    ∀ g, g < 8 → lv g ≠ 0 → rx' g = rx g ∧ ry' g = ry g ∧ rw' g = rw g ∧ rh' g = rh g := by
  intro g hg hl
  obtain ⟨q, hq, kq, e⟩ := rl_leaf Ga hg hl
  have r := pr_RE Ga Gb q hq kq
  rw [e] at r
  exact r
/-- the two objects, with the ghosts given: one tree, the same panes -/
def pr_J (f_hostWidth f_hostHeight f_root f_focusedPane f_liveCount : Int32) (a_parent a_first a_second a_orientation a_share a_leastWidth a_leastHeight a_rectX a_rectY a_rectW a_rectH a_order a_live a_screenWidth a_screenHeight a_cursorRow a_cursorCol a_regionTop a_regionBottom a_parserMode a_paramOne a_paramTwo a_paramIndex a_cells : Nat → Int32) (f_bhostWidth f_bhostHeight f_broot f_bfocusedPane f_bliveCount : Int32) (a_bparent a_bfirst a_bsecond a_borientation a_bshare a_bleastWidth a_bleastHeight a_brectX a_brectY a_brectW a_brectH a_border a_blive a_bscreenWidth a_bscreenHeight a_bcursorRow a_bcursorCol a_bregionTop a_bregionBottom a_bparserMode a_bparamOne a_bparamTwo a_bparamIndex a_bcells : Nat → Int32) (c : Nat) (kd vl : Nat → Int32) (nd nb en po pb : Nat → Nat) (w0 h0 f : Nat) : Prop :=
  f_hostWidth = nI w0 ∧ f_hostHeight = nI h0 ∧ f_hostWidth = f_bhostWidth ∧ f_hostHeight = f_bhostHeight ∧ f < 8 ∧ f_focusedPane = nI f ∧ f_focusedPane = f_bfocusedPane ∧ a_live f ≠ 0 ∧ f_liveCount = nI (cc_n (fun g => a_live g ≠ 0) 8) ∧ f_liveCount = f_bliveCount ∧
  a_live = a_blive ∧ a_cursorRow = a_bcursorRow ∧ a_cursorCol = a_bcursorCol ∧ a_regionTop = a_bregionTop ∧ a_regionBottom = a_bregionBottom ∧ a_parserMode = a_bparserMode ∧ a_paramOne = a_bparamOne ∧ a_paramTwo = a_bparamTwo ∧ a_paramIndex = a_bparamIndex ∧
  rl_G c nd en po w0 h0 f_root a_parent a_first a_second a_orientation a_share a_leastWidth a_leastHeight a_rectX a_rectY a_rectW a_rectH kd vl a_live ∧
  rl_G c nb en pb w0 h0 f_broot a_bparent a_bfirst a_bsecond a_borientation a_bshare a_bleastWidth a_bleastHeight a_brectX a_brectY a_brectW a_brectH kd vl a_live ∧
  (∀ g, g < 8 → rl_p a_live a_rectX a_rectY a_rectW a_rectH a_screenWidth a_screenHeight a_brectX a_brectY a_brectW a_brectH a_cursorRow a_cursorCol a_regionTop a_regionBottom a_parserMode a_paramOne a_paramTwo a_paramIndex a_cells a_bcells g) ∧
  (∀ g, g < 8 → a_live g ≠ 0 → a_bscreenWidth g = a_screenWidth g ∧ a_bscreenHeight g = a_screenHeight g)
def pr_R (u v : St2) : Prop := match u, v with
  | (f_hostWidth, f_hostHeight, f_root, f_focusedPane, f_liveCount, a_parent, a_first, a_second, a_orientation, a_share, a_leastWidth, a_leastHeight, a_rectX, a_rectY, a_rectW, a_rectH, a_order, a_live, a_screenWidth, a_screenHeight, a_cursorRow, a_cursorCol, a_regionTop, a_regionBottom, a_parserMode, a_paramOne, a_paramTwo, a_paramIndex, a_cells), (f_bhostWidth, f_bhostHeight, f_broot, f_bfocusedPane, f_bliveCount, a_bparent, a_bfirst, a_bsecond, a_borientation, a_bshare, a_bleastWidth, a_bleastHeight, a_brectX, a_brectY, a_brectW, a_brectH, a_border, a_blive, a_bscreenWidth, a_bscreenHeight, a_bcursorRow, a_bcursorCol, a_bregionTop, a_bregionBottom, a_bparserMode, a_bparamOne, a_bparamTwo, a_bparamIndex, a_bcells) => ∃ c kd vl nd nb en po pb w0 h0 f, pr_J f_hostWidth f_hostHeight f_root f_focusedPane f_liveCount a_parent a_first a_second a_orientation a_share a_leastWidth a_leastHeight a_rectX a_rectY a_rectW a_rectH a_order a_live a_screenWidth a_screenHeight a_cursorRow a_cursorCol a_regionTop a_regionBottom a_parserMode a_paramOne a_paramTwo a_paramIndex a_cells f_bhostWidth f_bhostHeight f_broot f_bfocusedPane f_bliveCount a_bparent a_bfirst a_bsecond a_borientation a_bshare a_bleastWidth a_bleastHeight a_brectX a_brectY a_brectW a_brectH a_border a_blive a_bscreenWidth a_bscreenHeight a_bcursorRow a_bcursorCol a_bregionTop a_bregionBottom a_bparserMode a_bparamOne a_bparamTwo a_bparamIndex a_bcells c kd vl nd nb en po pb w0 h0 f
theorem pr_focus {u v : St2} {A : Int32 → St2 → Prop} (x : Int32) (R : pr_R u v) (K : ∀ r u', (∀ B : Int32 → St2 → Prop, (∀ r' v', pr_R u' v' → B r' v') → wpX_focus B v x) → A r u') : wpX_focus A u x := by
  obtain ⟨f_hostWidth, f_hostHeight, f_root, f_focusedPane, f_liveCount, a_parent, a_first, a_second, a_orientation, a_share, a_leastWidth, a_leastHeight, a_rectX, a_rectY, a_rectW, a_rectH, a_order, a_live, a_screenWidth, a_screenHeight, a_cursorRow, a_cursorCol, a_regionTop, a_regionBottom, a_parserMode, a_paramOne, a_paramTwo, a_paramIndex, a_cells⟩ := u
  obtain ⟨f_bhostWidth, f_bhostHeight, f_broot, f_bfocusedPane, f_bliveCount, a_bparent, a_bfirst, a_bsecond, a_borientation, a_bshare, a_bleastWidth, a_bleastHeight, a_brectX, a_brectY, a_brectW, a_brectH, a_border, a_blive, a_bscreenWidth, a_bscreenHeight, a_bcursorRow, a_bcursorCol, a_bregionTop, a_bregionBottom, a_bparserMode, a_bparamOne, a_bparamTwo, a_bparamIndex, a_bcells⟩ := v
  obtain ⟨c, kd, vl, nd, nb, en, po, pb, w0, h0, f, J⟩ := R
  have J0 := J
  obtain ⟨rfl, rfl, rfl, rfl, j5, rfl, rfl, j8, j9, rfl, rfl, rfl, rfl, rfl, rfl, rfl, rfl, rfl, rfl, Ga, Gb, Pn, Sb⟩ := J
  unfold wpX_focus
  rcases pd_or a_live x with D | ⟨g, hg, e, hl⟩
  · exact xw_dead D (br_t rfl (K _ _ (fun B KB => by unfold wpX_focus; exact xw_dead D (br_t rfl (KB _ _ ⟨c, kd, vl, nd, nb, en, po, pb, w0, h0, f, J0⟩)))))
  · subst e
    exact xw_live hg hl (br_f (by decide) (K _ _ (fun B KB => by unfold wpX_focus; exact xw_live hg hl (br_f (by decide) (KB _ _ ⟨c, kd, vl, nd, nb, en, po, pb, w0, h0, g, rfl, rfl, rfl, rfl, hg, rfl, rfl, hl, j9, rfl, rfl, rfl, rfl, rfl, rfl, rfl, rfl, rfl, rfl, Ga, Gb, Pn, Sb⟩)))))
theorem pr_next {u v : St2} {A : Int32 → St2 → Prop} (R : pr_R u v) (K : ∀ r u', (∀ B : Int32 → St2 → Prop, (∀ r' v', pr_R u' v' → B r' v') → wpX_focusNext B v) → A r u') : wpX_focusNext A u := by
  obtain ⟨f_hostWidth, f_hostHeight, f_root, f_focusedPane, f_liveCount, a_parent, a_first, a_second, a_orientation, a_share, a_leastWidth, a_leastHeight, a_rectX, a_rectY, a_rectW, a_rectH, a_order, a_live, a_screenWidth, a_screenHeight, a_cursorRow, a_cursorCol, a_regionTop, a_regionBottom, a_parserMode, a_paramOne, a_paramTwo, a_paramIndex, a_cells⟩ := u
  obtain ⟨f_bhostWidth, f_bhostHeight, f_broot, f_bfocusedPane, f_bliveCount, a_bparent, a_bfirst, a_bsecond, a_borientation, a_bshare, a_bleastWidth, a_bleastHeight, a_brectX, a_brectY, a_brectW, a_brectH, a_border, a_blive, a_bscreenWidth, a_bscreenHeight, a_bcursorRow, a_bcursorCol, a_bregionTop, a_bregionBottom, a_bparserMode, a_bparamOne, a_bparamTwo, a_bparamIndex, a_bcells⟩ := v
  obtain ⟨c, kd, vl, nd, nb, en, po, pb, w0, h0, f, J⟩ := R
  obtain ⟨rfl, rfl, rfl, rfl, j5, rfl, rfl, j8, j9, rfl, rfl, rfl, rfl, rfl, rfl, rfl, rfl, rfl, rfl, Ga, Gb, Pn, Sb⟩ := J
  obtain ⟨p, hp, kp, ep⟩ := rl_leaf Ga j5 j8
  have lf := (pr_un Ga Gb).2
  have T := Ga.1
  have g7 := Ga.2.2.2.2.2.2.2.2.2
  subst ep
  refine xw_next T hp kp rfl (fun n F => K _ _ (fun B KB => xw_next Gb.1 hp kp (by rw [lf p hp kp]) (fun n' F' => ?_)))
  have en' := fn_un F' F
  subst en'
  rw [lf n' F.1 F.2.1]
  have n8 := ((T.2.2.2.2.2.1 n' F.1).2.2.2.1 F.2.1).1
  exact KB _ _ ⟨c, kd, vl, nd, nb, en, po, pb, w0, h0, nd n', rfl, rfl, rfl, rfl, n8, rfl, rfl, (g7 _ n8).2.mpr ⟨n', F.1, rfl⟩, j9, rfl, rfl, rfl, rfl, rfl, rfl, rfl, rfl, rfl, rfl, Ga, Gb, Pn, Sb⟩
/-- after both have laid out and fitted, with the tree and the flags as they are -/
theorem pr_fin {c : Nat} {nd nb en po pb : Nat → Nat} {w0 h0 : Nat} {root root' : Int32} {pa fi se ori sr lw lh rx ry rw rh kd vl dv pa' fi' se' ori' sr' lw' lh' rx' ry' rw' rh' : Nat → Int32} {lv xx xy xw xh sw sh yx yy yw yh R C T B M P1 P2 K xc yc bsw bsh : Nat → Int32} {kw kh : Nat → Nat}
    (Ga : rl_G c nd en po w0 h0 root pa fi se ori sr lw lh rx ry rw rh kd vl dv) (Gb : rl_G c nb en pb w0 h0 root' pa' fi' se' ori' sr' lw' lh' rx' ry' rw' rh' kd vl dv) (hd : ∀ g, g < 8 → dv g ≠ 0 → lv g ≠ 0) (Pn : ∀ g, g < 8 → rl_p lv xx xy xw xh sw sh yx yy yw yh R C T B M P1 P2 K xc yc g) (Sb : ∀ g, g < 8 → lv g ≠ 0 → bsw g = sw g ∧ bsh g = sh g) (F : fi_F dv sw sh rw rh kw kh) :
    fi_F dv bsw bsh rw' rh' kw kh ∧ fi_A dv 8 (fi_r R rh') R = fi_A dv 8 (fi_r R rh) R ∧ fi_A dv 8 (fi_r C rw') C = fi_A dv 8 (fi_r C rw) C ∧ fi_A dv 8 (fi_t T B rh') T = fi_A dv 8 (fi_t T B rh) T ∧ fi_A dv 8 (fi_b B rh') B = fi_A dv 8 (fi_b B rh) B ∧
    (∀ g, g < 8 → rl_p dv rx ry rw rh (fi_A dv 8 rw sw) (fi_A dv 8 rh sh) rx' ry' rw' rh' (fi_A dv 8 (fi_r R rh) R) (fi_A dv 8 (fi_r C rw) C) (fi_A dv 8 (fi_t T B rh) T) (fi_A dv 8 (fi_b B rh) B) M P1 P2 K (ce_w (fi_S dv kw kh 8) xc) (ce_w (fi_S dv kw kh 8) yc) g) ∧
    (∀ g, g < 8 → dv g ≠ 0 → fi_A dv 8 rw' bsw g = fi_A dv 8 rw sw g ∧ fi_A dv 8 rh' bsh g = fi_A dv 8 rh sh g) := by
  have eq := pr_live Ga Gb
  refine ⟨fi_Fe F (fun g hg hz => ⟨(Sb g hg (hd g hg hz)).1, (Sb g hg (hd g hg hz)).2, (eq g hg hz).2.2.1, (eq g hg hz).2.2.2⟩), ?_, ?_, ?_, ?_, rl_fin Ga hd Pn F (pr_RE Ga Gb), fun g hg hz => ?_⟩
  · exact fi_Ae (fun g hg hz => by unfold fi_r; rw [(eq g hg hz).2.2.2])
  · exact fi_Ae (fun g hg hz => by unfold fi_r; rw [(eq g hg hz).2.2.1])
  · exact fi_Ae (fun g hg hz => by unfold fi_t; rw [(eq g hg hz).2.2.2])
  · exact fi_Ae (fun g hg hz => by unfold fi_b; rw [(eq g hg hz).2.2.2])
  · rw [fi_An hg hz, fi_An hg hz, fi_An hg hz, fi_An hg hz]
    exact ⟨(eq g hg hz).2.2.1, (eq g hg hz).2.2.2⟩
end
section
theorem pr_resize {u v : St2} {A : Int32 → St2 → Prop} (v1 v2 : Int32) (R : pr_R u v) (K : ∀ r u', (∀ B : Int32 → St2 → Prop, (∀ r' v', pr_R u' v' → B r' v') → wpX_resizeHost B v v1 v2) → A r u') : wpX_resizeHost A u v1 v2 := by
  obtain ⟨f_hostWidth, f_hostHeight, f_root, f_focusedPane, f_liveCount, a_parent, a_first, a_second, a_orientation, a_share, a_leastWidth, a_leastHeight, a_rectX, a_rectY, a_rectW, a_rectH, a_order, a_live, a_screenWidth, a_screenHeight, a_cursorRow, a_cursorCol, a_regionTop, a_regionBottom, a_parserMode, a_paramOne, a_paramTwo, a_paramIndex, a_cells⟩ := u
  obtain ⟨f_bhostWidth, f_bhostHeight, f_broot, f_bfocusedPane, f_bliveCount, a_bparent, a_bfirst, a_bsecond, a_borientation, a_bshare, a_bleastWidth, a_bleastHeight, a_brectX, a_brectY, a_brectW, a_brectH, a_border, a_blive, a_bscreenWidth, a_bscreenHeight, a_bcursorRow, a_bcursorCol, a_bregionTop, a_bregionBottom, a_bparserMode, a_bparamOne, a_bparamTwo, a_bparamIndex, a_bcells⟩ := v
  obtain ⟨c, kd, vl, nd, nb, en, po, pb, w0, h0, f, J⟩ := R
  have J0 := J
  obtain ⟨rfl, rfl, rfl, rfl, j5, rfl, rfl, j8, j9, rfl, rfl, rfl, rfl, rfl, rfl, rfl, rfl, rfl, rfl, Ga, Gb, Pn, Sb⟩ := J
  have R0 : pr_R (nI w0, nI h0, f_root, nI f, f_liveCount, a_parent, a_first, a_second, a_orientation, a_share, a_leastWidth, a_leastHeight, a_rectX, a_rectY, a_rectW, a_rectH, a_order, a_live, a_screenWidth, a_screenHeight, a_cursorRow, a_cursorCol, a_regionTop, a_regionBottom, a_parserMode, a_paramOne, a_paramTwo, a_paramIndex, a_cells) (nI w0, nI h0, f_broot, nI f, f_liveCount, a_bparent, a_bfirst, a_bsecond, a_borientation, a_bshare, a_bleastWidth, a_bleastHeight, a_brectX, a_brectY, a_brectW, a_brectH, a_border, a_live, a_bscreenWidth, a_bscreenHeight, a_cursorRow, a_cursorCol, a_regionTop, a_regionBottom, a_parserMode, a_paramOne, a_paramTwo, a_paramIndex, a_bcells) := ⟨c, kd, vl, nd, nb, en, po, pb, w0, h0, f, J0⟩
  obtain ⟨T, L, E, g1, g2, g3, g4, g5, g6, g7⟩ := id Ga
  obtain ⟨Tb, Lb, Eb, d1, d2, d3, d4, d5, d6, d7⟩ := id Gb
  obtain ⟨P, T2, T3, T4, T5, T6, T7⟩ := id T
  obtain ⟨Pb, U2, U3, U4, U5, U6, U7⟩ := id Tb
  obtain ⟨w1, ew, x1, x2⟩ := la_clN v1 (a := 8) (b := 24) (by omega) (by omega)
  obtain ⟨h1, eh, y1, y2⟩ := la_clN v2 (a := 4) (b := 12) (by omega) (by omega)
  have ew' : la_cl v1 8 24 = nI w1 := ew
  have eh' : la_cl v2 4 12 = nI h1 := eh
  obtain ⟨a0, b0, ea, eb, m1, m2, m3, m4⟩ := la_Ln P T5 T2 L 0 P.1
  have e0 := P.2.1
  have un := (pr_un Ga Gb).1 0 P.1
  have ea' := un.1.trans ea
  have eb' := un.2.1.trans eb
  have r15 := (T6 0 P.1).1
  have vr : vp_in f_root 15 := by rw [T3]; exact vi_15 r15
  have er : f_root.toNatClampNeg = nd 0 := by rw [T3]; exact cg_15 r15
  have r15b := (U6 0 P.1).1
  have vrb : vp_in f_broot 15 := by rw [U3]; exact vi_15 r15b
  have erb : f_broot.toNatClampNeg = nb 0 := by rw [U3]; exact cg_15 r15b
  unfold wpX_resizeHost
  refine xw_clamp ?_
  rw [ew']
  refine xw_clamp ?_
  rw [eh']
  refine ⟨vr, ?_⟩
  rw [er, ea, eb]
  refine pk_lt w1 a0 (fun z => ?_) (fun z => ⟨vr, pk_le b0 h1 (fun y => ?_) (fun y => ?_)⟩)
  · refine K _ _ (fun B KB => ?_)
    unfold wpX_resizeHost
    refine xw_clamp ?_
    rw [ew']
    refine xw_clamp ?_
    rw [eh']
    refine ⟨vrb, ?_⟩
    rw [erb, ea', eb']
    exact br_t (nI_lt z (by omega)) (KB _ _ R0)
  · refine xw_layOut T (fun lw lh rx ry rw rh ord L' E' => ?_)
    have Ga' : rl_G c nd en po w1 h1 f_root a_parent a_first a_second a_orientation a_share lw lh rx ry rw rh kd vl a_live :=
      ⟨T, L', E', x1, x2, y1, y2, rl_m0 P T5 L L' (rl_ex ⟨a0, ea, z⟩ x2), rl_n0 P T5 L L' (rl_ex ⟨b0, eb, y⟩ (by omega)), g7⟩
    have F := rl_F (dv := a_live) Ga' (fun g hg hl => ⟨hl, hl⟩) Pn
    refine xw_fits F (K _ _ (fun B KB => ?_))
    unfold wpX_resizeHost
    refine xw_clamp ?_
    rw [ew']
    refine xw_clamp ?_
    rw [eh']
    refine ⟨vrb, ?_⟩
    rw [erb, ea', eb']
    refine br_f (nI_nlt z (by omega)) ⟨vrb, br_t (nI_le y (by omega)) (xw_layOut Tb (fun lw' lh' rx' ry' rw' rh' ord' M' N' => ?_))⟩
    have Gb' : rl_G c nb en pb w1 h1 f_broot a_bparent a_bfirst a_bsecond a_borientation a_bshare lw' lh' rx' ry' rw' rh' kd vl a_live :=
      ⟨Tb, M', N', x1, x2, y1, y2, rl_m0 Pb U5 Lb M' (rl_ex ⟨a0, ea', z⟩ x2), rl_n0 Pb U5 Lb M' (rl_ex ⟨b0, eb', y⟩ (by omega)), d7⟩
    obtain ⟨Fb, q1, q2, q3, q4, q5, q6⟩ := pr_fin Ga' Gb' (fun g hg hl => hl) Pn Sb F
    refine xw_fits Fb ?_
    rw [q1, q2, q3, q4]
    exact KB _ _ ⟨c, kd, vl, nd, nb, en, po, pb, w1, h1, f, rfl, rfl, rfl, rfl, j5, rfl, rfl, j8, j9, rfl, rfl, rfl, rfl, rfl, rfl, rfl, rfl, rfl, rfl, Ga', Gb', q5, q6⟩
  · refine K _ _ (fun B KB => ?_)
    unfold wpX_resizeHost
    refine xw_clamp ?_
    rw [ew']
    refine xw_clamp ?_
    rw [eh']
    refine ⟨vrb, ?_⟩
    rw [erb, ea', eb']
    exact br_f (nI_nlt z (by omega)) ⟨vrb, br_f (nI_ge y (by omega)) (KB _ _ R0)⟩
section PS
variable {f_hostWidth f_hostHeight f_root f_focusedPane f_liveCount : Int32} {a_parent a_first a_second a_orientation a_share a_leastWidth a_leastHeight a_rectX a_rectY a_rectW a_rectH a_order a_live a_screenWidth a_screenHeight a_cursorRow a_cursorCol a_regionTop a_regionBottom a_parserMode a_paramOne a_paramTwo a_paramIndex a_cells : Nat → Int32} {f_bhostWidth f_bhostHeight f_broot f_bfocusedPane f_bliveCount : Int32} {a_bparent a_bfirst a_bsecond a_borientation a_bshare a_bleastWidth a_bleastHeight a_brectX a_brectY a_brectW a_brectH a_border a_blive a_bscreenWidth a_bscreenHeight a_bcursorRow a_bcursorCol a_bregionTop a_bregionBottom a_bparserMode a_bparamOne a_bparamTwo a_bparamIndex a_bcells : Nat → Int32}
variable {c : Nat} {kd vl : Nat → Int32} {nd nb en po pb : Nat → Nat} {w0 h0 f : Nat}
theorem pr_share1 {A : Int32 → St2 → Prop} {v1 v2 : Int32} (J : pr_J (nI w0) (nI h0) f_root (nI f) f_liveCount a_parent a_first a_second a_orientation a_share a_leastWidth a_leastHeight a_rectX a_rectY a_rectW a_rectH a_order a_live a_screenWidth a_screenHeight a_cursorRow a_cursorCol a_regionTop a_regionBottom a_parserMode a_paramOne a_paramTwo a_paramIndex a_cells (nI w0) (nI h0) f_broot (nI f) f_liveCount a_bparent a_bfirst a_bsecond a_borientation a_bshare a_bleastWidth a_bleastHeight a_brectX a_brectY a_brectW a_brectH a_border a_live a_bscreenWidth a_bscreenHeight a_cursorRow a_cursorCol a_regionTop a_regionBottom a_parserMode a_paramOne a_paramTwo a_paramIndex a_bcells c kd vl nd nb en po pb w0 h0 f) (hv : v1 = 1 ∨ v1 = 2) (K : ∀ r u', (∀ B : Int32 → St2 → Prop, (∀ r' v', pr_R u' v' → B r' v') → wpX_setShare B (nI w0, nI h0, f_broot, nI f, f_liveCount, a_bparent, a_bfirst, a_bsecond, a_borientation, a_bshare, a_bleastWidth, a_bleastHeight, a_brectX, a_brectY, a_brectW, a_brectH, a_border, a_live, a_bscreenWidth, a_bscreenHeight, a_cursorRow, a_cursorCol, a_regionTop, a_regionBottom, a_parserMode, a_paramOne, a_paramTwo, a_paramIndex, a_bcells) v1 v2) → A r u') : wX_setShare_12 A v1 v2 (nI w0) (nI h0) f_root (nI f) f_liveCount a_parent a_first a_second a_orientation a_share a_leastWidth a_leastHeight a_rectX a_rectY a_rectW a_rectH a_order a_live a_screenWidth a_screenHeight a_cursorRow a_cursorCol a_regionTop a_regionBottom a_parserMode a_paramOne a_paramTwo a_paramIndex a_cells := by
  have J0 := J
  obtain ⟨_, _, _, _, j5, _, _, j8, j9, _, _, _, _, _, _, _, _, _, _, Ga, Gb, Pn, Sb⟩ := J
  have R0 : pr_R (nI w0, nI h0, f_root, nI f, f_liveCount, a_parent, a_first, a_second, a_orientation, a_share, a_leastWidth, a_leastHeight, a_rectX, a_rectY, a_rectW, a_rectH, a_order, a_live, a_screenWidth, a_screenHeight, a_cursorRow, a_cursorCol, a_regionTop, a_regionBottom, a_parserMode, a_paramOne, a_paramTwo, a_paramIndex, a_cells) (nI w0, nI h0, f_broot, nI f, f_liveCount, a_bparent, a_bfirst, a_bsecond, a_borientation, a_bshare, a_bleastWidth, a_bleastHeight, a_brectX, a_brectY, a_brectW, a_brectH, a_border, a_live, a_bscreenWidth, a_bscreenHeight, a_cursorRow, a_cursorCol, a_regionTop, a_regionBottom, a_parserMode, a_paramOne, a_paramTwo, a_paramIndex, a_bcells) := ⟨c, kd, vl, nd, nb, en, po, pb, w0, h0, f, J0⟩
  obtain ⟨T, L, E, g1, g2, g3, g4, g5, g6, g7⟩ := id Ga
  obtain ⟨Tb, Lb, Eb, d1, d2, d3, d4, d5, d6, d7⟩ := id Gb
  obtain ⟨P, T2, T3, T4, T5, T6, T7⟩ := id T
  obtain ⟨Pb, U2, U3, U4, U5, U6, U7⟩ := id Tb
  obtain ⟨p, hp, kp, ep⟩ := rl_leaf Ga j5 j8
  have lf := (pr_un Ga Gb).2
  have epb : nb p = f := (lf p hp kp).trans ep
  have hv0 : v1 ≠ 0 := by rcases hv with h | h <;> subst h <;> decide
  have Y0 : ∀ post : Int32 → St2 → Prop, wX_setShare_12 post v1 v2 (nI w0) (nI h0) f_broot (nI f) f_liveCount a_bparent a_bfirst a_bsecond a_borientation a_bshare a_bleastWidth a_bleastHeight a_brectX a_brectY a_brectW a_brectH a_border a_live a_bscreenWidth a_bscreenHeight a_cursorRow a_cursorCol a_regionTop a_regionBottom a_parserMode a_paramOne a_paramTwo a_paramIndex a_bcells → wpX_setShare post (nI w0, nI h0, f_broot, nI f, f_liveCount, a_bparent, a_bfirst, a_bsecond, a_borientation, a_bshare, a_bleastWidth, a_bleastHeight, a_brectX, a_brectY, a_brectW, a_brectH, a_border, a_live, a_bscreenWidth, a_bscreenHeight, a_cursorRow, a_cursorCol, a_regionTop, a_regionBottom, a_parserMode, a_paramOne, a_paramTwo, a_paramIndex, a_bcells) v1 v2 := by
    intro post K
    rcases hv with h | h
    · exact br_t h K
    · by_cases y : v1 = 1
      · exact br_t y K
      · exact br_f y (br_t h K)
  obtain ⟨s, es, s1, s2⟩ := la_clN v2 (a := 1) (b := 99) (by omega) (by omega)
  have es' : la_cl v2 1 99 = nI s := es
  refine xw_climb T hp kp hv0 (by rw [ep]) (fun N0 => ?_) (fun b Bq => ?_)
  · exact K _ _ (fun B KB => Y0 _ (xw_climb Tb hp kp hv0 (by rw [epb]) (fun _ => KB _ _ R0) (fun b' B' => absurd ⟨B'.2.1, B'.2.2.1⟩ (N0 b' B'.1))))
  · have bc : b < c := by have := Bq.1; omega
    have bk : kd b ≠ 0 := by rw [Bq.2.1]; exact hv0
    have b15 := (T6 b bc).1
    have b15' := (U6 b bc).1
    refine br_f (tr_m1 (by omega)) (xw_clamp ?_)
    rw [es']
    have T' := tr_share T bc bk s1 s2
    have Tb' := tr_share Tb bc bk s1 s2
    refine ⟨vi_15 b15, nm_r (e' := upd a_share (nd b) (nI s)) (by rw [cg_15 b15]) (xw_layOut T' (fun lw lh rx ry rw rh ord L' E' => ?_))⟩
    have Ga' : rl_G c nd en po w0 h0 f_root a_parent a_first a_second a_orientation (upd a_share (nd b) (nI s)) lw lh rx ry rw rh kd (upd vl b (nI s)) a_live :=
      ⟨T', L', E', g1, g2, g3, g4, rl_m0 P T5 L L' g5, rl_n0 P T5 L L' g6, g7⟩
    have F := rl_F (dv := a_live) Ga' (fun g hg hl => ⟨hl, hl⟩) Pn
    refine xw_fits F (K _ _ (fun B KB => Y0 _ (xw_climb Tb hp kp hv0 (by rw [epb]) (fun n0 => absurd ⟨Bq.2.1, Bq.2.2.1⟩ (n0 b Bq.1)) (fun b' B' => ?_))))
    have eb := an_un B' Bq
    subst eb
    refine br_f (tr_m1 (by omega)) (xw_clamp ?_)
    rw [es']
    refine ⟨vi_15 b15', nm_r (e' := upd a_bshare (nb b') (nI s)) (by rw [cg_15 b15']) (xw_layOut Tb' (fun lw' lh' rx' ry' rw' rh' ord' M' N' => ?_))⟩
    have Gb' : rl_G c nb en pb w0 h0 f_broot a_bparent a_bfirst a_bsecond a_borientation (upd a_bshare (nb b') (nI s)) lw' lh' rx' ry' rw' rh' kd (upd vl b' (nI s)) a_live :=
      ⟨Tb', M', N', d1, d2, d3, d4, rl_m0 Pb U5 Lb M' d5, rl_n0 Pb U5 Lb M' d6, d7⟩
    obtain ⟨Fb, q1, q2, q3, q4, q5, q6⟩ := pr_fin Ga' Gb' (fun g hg hl => hl) Pn Sb F
    refine xw_fits Fb ?_
    rw [q1, q2, q3, q4]
    exact KB _ _ ⟨c, kd, upd vl b' (nI s), nd, nb, en, po, pb, w0, h0, f, rfl, rfl, rfl, rfl, j5, rfl, rfl, j8, j9, rfl, rfl, rfl, rfl, rfl, rfl, rfl, rfl, rfl, rfl, Ga', Gb', q5, q6⟩
end PS
theorem pr_share {u v : St2} {A : Int32 → St2 → Prop} (v1 v2 : Int32) (R : pr_R u v) (K : ∀ r u', (∀ B : Int32 → St2 → Prop, (∀ r' v', pr_R u' v' → B r' v') → wpX_setShare B v v1 v2) → A r u') : wpX_setShare A u v1 v2 := by
  obtain ⟨f_hostWidth, f_hostHeight, f_root, f_focusedPane, f_liveCount, a_parent, a_first, a_second, a_orientation, a_share, a_leastWidth, a_leastHeight, a_rectX, a_rectY, a_rectW, a_rectH, a_order, a_live, a_screenWidth, a_screenHeight, a_cursorRow, a_cursorCol, a_regionTop, a_regionBottom, a_parserMode, a_paramOne, a_paramTwo, a_paramIndex, a_cells⟩ := u
  obtain ⟨f_bhostWidth, f_bhostHeight, f_broot, f_bfocusedPane, f_bliveCount, a_bparent, a_bfirst, a_bsecond, a_borientation, a_bshare, a_bleastWidth, a_bleastHeight, a_brectX, a_brectY, a_brectW, a_brectH, a_border, a_blive, a_bscreenWidth, a_bscreenHeight, a_bcursorRow, a_bcursorCol, a_bregionTop, a_bregionBottom, a_bparserMode, a_bparamOne, a_bparamTwo, a_bparamIndex, a_bcells⟩ := v
  obtain ⟨c, kd, vl, nd, nb, en, po, pb, w0, h0, f, J⟩ := R
  have J0 := J
  obtain ⟨rfl, rfl, rfl, rfl, j5, rfl, rfl, j8, j9, rfl, rfl, rfl, rfl, rfl, rfl, rfl, rfl, rfl, rfl, Ga, Gb, Pn, Sb⟩ := J
  by_cases h1 : v1 = 1
  · exact br_t h1 (pr_share1 J0 (Or.inl h1) K)
  · by_cases h2 : v1 = 2
    · exact br_f h1 (br_t h2 (pr_share1 J0 (Or.inr h2) K))
    · exact br_f h1 (br_f h2 (K _ _ (fun B KB => br_f h1 (br_f h2 (KB _ _ ⟨c, kd, vl, nd, nb, en, po, pb, w0, h0, f, J0⟩)))))
end
section
theorem fi_Sc {dv : Nat → Int32} {kw kh kw' kh' : Nat → Nat} {i : Nat} {a : Nat → Int32} (h : ∀ g, g < i → dv g ≠ 0 → kw g = kw' g ∧ kh g = kh' g) : ce_w (fi_S dv kw kh i) a = ce_w (fi_S dv kw' kh' i) a := by
  apply ce_we
  intro j
  unfold fi_S
  constructor
  · rintro ⟨z1, z2, z3⟩
    obtain ⟨e1, e2⟩ := h _ z1 z2
    rw [e1, e2] at z3
    exact ⟨z1, z2, z3⟩
  · rintro ⟨z1, z2, z3⟩
    obtain ⟨e1, e2⟩ := h _ z1 z2
    rw [← e1, ← e2] at z3
    exact ⟨z1, z2, z3⟩
section TX
variable {f_hostWidth f_hostHeight f_root f_focusedPane f_liveCount : Int32} {a_parent a_first a_second a_orientation a_share a_leastWidth a_leastHeight a_rectX a_rectY a_rectW a_rectH a_order a_live a_screenWidth a_screenHeight a_cursorRow a_cursorCol a_regionTop a_regionBottom a_parserMode a_paramOne a_paramTwo a_paramIndex a_cells : Nat → Int32}
variable {c : Nat} {kd vl : Nat → Int32} {nd en po : Nat → Nat} {w0 h0 : Nat}
/-- a split that is refused -/
theorem xs_no {post : Int32 → St2 → Prop} {p f : Nat} {v1 : Int32} (hf : nd p = f) (p8 : f < 8) (no : (v1 ≠ 1 ∧ v1 ≠ 2) ∨ (∀ g, g < 8 → a_live g ≠ 0) ∨ ((v1 = 1 → ¬ nI 3 ≤ a_rectW f) ∧ (v1 = 2 → ¬ nI 3 ≤ a_rectH f))) (K : post (-1) (f_hostWidth, f_hostHeight, f_root, nI f, f_liveCount, a_parent, a_first, a_second, a_orientation, a_share, a_leastWidth, a_leastHeight, a_rectX, a_rectY, a_rectW, a_rectH, a_order, a_live, a_screenWidth, a_screenHeight, a_cursorRow, a_cursorCol, a_regionTop, a_regionBottom, a_parserMode, a_paramOne, a_paramTwo, a_paramIndex, a_cells)) : wpX_split post (f_hostWidth, f_hostHeight, f_root, nI f, f_liveCount, a_parent, a_first, a_second, a_orientation, a_share, a_leastWidth, a_leastHeight, a_rectX, a_rectY, a_rectW, a_rectH, a_order, a_live, a_screenWidth, a_screenHeight, a_cursorRow, a_cursorCol, a_regionTop, a_regionBottom, a_parserMode, a_paramOne, a_paramTwo, a_paramIndex, a_cells) v1 := by
  subst hf
  have v15p : vp_in (nI (nd p)) 15 := vi_15 (by omega)
  have c15p : (nI (nd p)).toNatClampNeg = nd p := cg_15 (by omega)
  have B : (v1 = 1 ∨ v1 = 2) → wX_split_12 post v1 f_hostWidth f_hostHeight f_root (nI (nd p)) f_liveCount a_parent a_first a_second a_orientation a_share a_leastWidth a_leastHeight a_rectX a_rectY a_rectW a_rectH a_order a_live a_screenWidth a_screenHeight a_cursorRow a_cursorCol a_regionTop a_regionBottom a_parserMode a_paramOne a_paramTwo a_paramIndex a_cells := by
    intro hv
    unfold wX_split_12
    refine xw_lfree (fun all => br_t rfl K) (fun g hg h0' hl => br_f (tr_m1 (by omega)) ?_)
    have rm : (v1 = 1 → ¬ nI 3 ≤ a_rectW (nd p)) ∧ (v1 = 2 → ¬ nI 3 ≤ a_rectH (nd p)) := by
      rcases no with n | n | n
      · rcases hv with h | h
        · exact absurd h n.1
        · exact absurd h n.2
      · exact absurd h0' (n g hg)
      · exact n
    by_cases y : v1 = 1
    · refine br_t y ⟨v15p, ?_⟩
      rw [c15p]
      exact br_f (rm.1 y) K
    · refine br_f y ⟨v15p, ?_⟩
      have y2 : v1 = 2 := by rcases hv with h | h; exact absurd h y; exact h
      rw [c15p]
      exact br_f (rm.2 y2) K
  by_cases h1 : v1 = 1
  · exact br_t h1 (B (Or.inl h1))
  · by_cases h2 : v1 = 2
    · exact br_f h1 (br_t h2 (B (Or.inr h2)))
    · exact br_f h1 (br_f h2 K)
/-- a split that is done -/
theorem xs_yes {post : Int32 → St2 → Prop} {p g f : Nat} {v1 : Int32} {yx yy yw yh xc yc : Nat → Int32} (G : rl_G c nd en po w0 h0 f_root a_parent a_first a_second a_orientation a_share a_leastWidth a_leastHeight a_rectX a_rectY a_rectW a_rectH kd vl a_live)
    (Pn : ∀ g, g < 8 → rl_p a_live a_rectX a_rectY a_rectW a_rectH a_screenWidth a_screenHeight yx yy yw yh a_cursorRow a_cursorCol a_regionTop a_regionBottom a_parserMode a_paramOne a_paramTwo a_paramIndex xc yc g)
    (hf : nd p = f) (hp : p < c) (kp : kd p = 0) (hv : v1 = 1 ∨ v1 = 2) (hg : g < 8) (h0' : a_live g = 0) (hl : ∀ i, i < g → a_live i ≠ 0) (rm1 : v1 = 1 → nI 3 ≤ a_rectW f) (rm2 : v1 = 2 → nI 3 ≤ a_rectH f)
    (K : ∀ (nd' po' : Nat → Nat) (root' : Int32) (pa' fi' se' ori' sr' lw lh rx ry rw rh ord : Nat → Int32), rl_G (c + 2) nd' (sp_f p (p + 3) (p + 2) (p + 3) (fun j => sp_s p (en j))) po' w0 h0 root' pa' fi' se' ori' sr' lw lh rx ry rw rh (sp_f p v1 0 0 kd) (sp_f p 50 (nI f) (nI g) vl) (upd a_live g 1) →
      fi_F a_live a_screenWidth a_screenHeight rw rh (fi_k a_screenWidth rw) (fi_k a_screenHeight rh) →
      post (nI g) (nI w0, nI h0, root', nI g, f_liveCount + 1, pa', fi', se', ori', sr', lw, lh, rx, ry, rw, rh, ord, upd a_live g 1, upd (fi_A a_live 8 rw a_screenWidth) g (rw g), upd (fi_A a_live 8 rh a_screenHeight) g (rh g), upd (fi_A a_live 8 (fi_r a_cursorRow rh) a_cursorRow) g 0, upd (fi_A a_live 8 (fi_r a_cursorCol rw) a_cursorCol) g 0, upd (fi_A a_live 8 (fi_t a_regionTop a_regionBottom rh) a_regionTop) g 0, upd (fi_A a_live 8 (fi_b a_regionBottom rh) a_regionBottom) g (rh g - 1), upd a_parserMode g 0, upd a_paramOne g 0, upd a_paramTwo g 0, upd a_paramIndex g 0, ce_w (ce_q (g * 288) 0 0 12 24) (ce_w (fi_S a_live (fi_k a_screenWidth rw) (fi_k a_screenHeight rh) 8) a_cells))) :
    wpX_split post (nI w0, nI h0, f_root, nI f, f_liveCount, a_parent, a_first, a_second, a_orientation, a_share, a_leastWidth, a_leastHeight, a_rectX, a_rectY, a_rectW, a_rectH, a_order, a_live, a_screenWidth, a_screenHeight, a_cursorRow, a_cursorCol, a_regionTop, a_regionBottom, a_parserMode, a_paramOne, a_paramTwo, a_paramIndex, a_cells) v1 := by
  subst hf
  obtain ⟨T, L, E, g1, g2, g3, g4, g5, g6, g7⟩ := id G
  obtain ⟨P, T2, T3, T4, T5, T6, T7⟩ := id T
  have p8 := ((T6 p hp).2.2.2.1 kp).1
  have v15p : vp_in (nI (nd p)) 15 := vi_15 (by omega)
  have c15p : (nI (nd p)).toNatClampNeg = nd p := cg_15 (by omega)
  obtain ⟨c13, cnt7, notin⟩ := lv_free T g7 hg h0'
  obtain ⟨X, Y, W, H, mw, mh, N, GG⟩ := rl_nat G
  obtain ⟨n1, n2, n3, n4, n5, n6, n7, n8, n9, n10, n11, n12⟩ := N p hp
  have B50 : ∀ z, nI 3 ≤ z → wX_split_50 post v1 (nI g) z (nI w0) (nI h0) f_root (nI (nd p)) f_liveCount a_parent a_first a_second a_orientation a_share a_leastWidth a_leastHeight a_rectX a_rectY a_rectW a_rectH a_order a_live a_screenWidth a_screenHeight a_cursorRow a_cursorCol a_regionTop a_regionBottom a_parserMode a_paramOne a_paramTwo a_paramIndex a_cells := by
    intro z hz
    refine br_t hz (xw_fnode T c13 (fun Nn N8 N15 hN' => xw_put T hp N15 (fun root' fi' se' S => ?_)))
    have vN : vp_in (nI Nn) 15 := vi_15 N15
    have cN : (nI Nn).toNatClampNeg = Nn := cg_15 N15
    have vg : vp_in (nI g) 15 := vi_15 (by omega)
    have cg : (nI g).toNatClampNeg = g := cg_15 (by omega)
    have T' := sp_T T c13 hp kp hv ⟨N8, N15⟩ hN' hg notin S
    have V' := lv_split (N := Nn) g7 hp N8 hg h0'
    refine ⟨vN, nm_r (e' := upd a_orientation Nn v1) (by rw [cN]) ⟨vN, nm_r (e' := upd a_share Nn 50) (by rw [cN]) ⟨vN, nm_r (e' := upd fi' Nn (nI (nd p))) (by rw [cN]) ⟨vN, nm_r (e' := upd se' Nn (nI g)) (by rw [cN]) ⟨v15p, nm_r (e' := upd (upd a_parent Nn (a_parent (nd p))) (nd p) (nI Nn)) (by rw [c15p]) ⟨vg, nm_r (e' := upd (upd (upd a_parent Nn (a_parent (nd p))) (nd p) (nI Nn)) g (nI Nn)) (by rw [cg]) (xw_layOut T' (fun lw lh rx ry rw rh ord L' E' => ?_))⟩⟩⟩⟩⟩⟩
    obtain ⟨ma, mb, m1, m2, m3, m4⟩ := sp_min (nd' := sp_f p Nn (nd p) g nd) P T5 hp kp hv g2 g4 N GG (fun y => by have := rm1 y; rw [n5, nI_leI (by omega) (by omega)] at this; exact this) (fun y => by have := rm2 y; rw [n6, nI_leI (by omega) (by omega)] at this; exact this) (fun j _ => rfl) L'
    have G' : rl_G (c + 2) (sp_f p Nn (nd p) g nd) (sp_f p (p + 3) (p + 2) (p + 3) (fun j => sp_s p (en j))) (fun n => if n = Nn then p else if n = nd p then p + 1 else if n = g then p + 2 else sp_s p (po n)) w0 h0 root' (upd (upd (upd a_parent Nn (a_parent (nd p))) (nd p) (nI Nn)) g (nI Nn)) (upd fi' Nn (nI (nd p))) (upd se' Nn (nI g)) (upd a_orientation Nn v1) (upd a_share Nn 50) lw lh rx ry rw rh (sp_f p v1 0 0 kd) (sp_f p 50 (nI (nd p)) (nI g) vl) (upd a_live g 1) :=
      ⟨T', L', E', g1, g2, g3, g4, rl_ex ⟨ma, m1, m3⟩ g2, rl_ex ⟨mb, m2, m4⟩ (by omega), V'⟩
    have F := rl_F (dv := a_live) G' (fun x hx hl => ⟨hl, by
      have : x ≠ g := fun e => hl (by rw [e]; exact h0')
      rw [pk_un this]; exact hl⟩) Pn
    exact xw_fits F (xw_start hg (K _ _ root' _ _ _ _ _ lw lh rx ry rw rh ord G' F))
  have B : wX_split_12 post v1 (nI w0) (nI h0) f_root (nI (nd p)) f_liveCount a_parent a_first a_second a_orientation a_share a_leastWidth a_leastHeight a_rectX a_rectY a_rectW a_rectH a_order a_live a_screenWidth a_screenHeight a_cursorRow a_cursorCol a_regionTop a_regionBottom a_parserMode a_paramOne a_paramTwo a_paramIndex a_cells := by
    unfold wX_split_12
    refine xw_lfree (fun all => absurd h0' (all g hg)) (fun g' hg' h0'' hl' => ?_)
    have eg : g' = g := by
      rcases Nat.lt_trichotomy g' g with h | h | h
      · exact absurd h0'' (hl g' h)
      · exact h
      · exact absurd h0' (hl' g h)
    subst eg
    refine br_f (tr_m1 (by omega)) ?_
    by_cases y : v1 = 1
    · refine br_t y ⟨v15p, ?_⟩
      rw [c15p]
      exact B50 _ (rm1 y)
    · refine br_f y ⟨v15p, ?_⟩
      have y2 : v1 = 2 := by rcases hv with h | h; exact absurd h y; exact h
      rw [c15p]
      exact B50 _ (rm2 y2)
  by_cases h1 : v1 = 1
  · exact br_t h1 B
  · have h2 : v1 = 2 := by rcases hv with h | h; exact absurd h h1; exact h
    exact br_f h1 (br_t h2 B)
theorem xc_no {post : Int32 → St2 → Prop} {p f : Nat} (hf : nd p = f) (p8 : f < 8) (e : a_parent (nd p) = -1) (K : post 0 (f_hostWidth, f_hostHeight, f_root, nI f, f_liveCount, a_parent, a_first, a_second, a_orientation, a_share, a_leastWidth, a_leastHeight, a_rectX, a_rectY, a_rectW, a_rectH, a_order, a_live, a_screenWidth, a_screenHeight, a_cursorRow, a_cursorCol, a_regionTop, a_regionBottom, a_parserMode, a_paramOne, a_paramTwo, a_paramIndex, a_cells)) : wpX_close post (f_hostWidth, f_hostHeight, f_root, nI f, f_liveCount, a_parent, a_first, a_second, a_orientation, a_share, a_leastWidth, a_leastHeight, a_rectX, a_rectY, a_rectW, a_rectH, a_order, a_live, a_screenWidth, a_screenHeight, a_cursorRow, a_cursorCol, a_regionTop, a_regionBottom, a_parserMode, a_paramOne, a_paramTwo, a_paramIndex, a_cells) := by
  subst hf
  refine ⟨vi_15 (by omega), ?_⟩
  rw [cg_15 (by omega)]
  exact nm_e (br_t e K)
theorem xc_yes {post : Int32 → St2 → Prop} {u p s f : Nat} (hf : nd p = f) (T : tr_T c nd en po f_root a_parent a_first a_second a_orientation a_share kd vl) (F : cl_F c kd en u p s) (ch : ps_ch kd en c u p) (hs : s = if p = u + 1 then u + 2 else u + 1) (K : wX_close_45 post (nI (nd u)) (nI (nd s)) f_hostWidth f_hostHeight f_root (nI f) f_liveCount a_parent a_first a_second a_orientation a_share a_leastWidth a_leastHeight a_rectX a_rectY a_rectW a_rectH a_order a_live a_screenWidth a_screenHeight a_cursorRow a_cursorCol a_regionTop a_regionBottom a_parserMode a_paramOne a_paramTwo a_paramIndex a_cells) : wpX_close post (f_hostWidth, f_hostHeight, f_root, nI f, f_liveCount, a_parent, a_first, a_second, a_orientation, a_share, a_leastWidth, a_leastHeight, a_rectX, a_rectY, a_rectW, a_rectH, a_order, a_live, a_screenWidth, a_screenHeight, a_cursorRow, a_cursorCol, a_regionTop, a_regionBottom, a_parserMode, a_paramOne, a_paramTwo, a_paramIndex, a_cells) := by
  subst hf
  obtain ⟨P, T2, T3, T4, T5, T6, T7⟩ := id T
  obtain ⟨_, f1, f2, f3, f4, f5, f6, f7, f8, f9, f10⟩ := id F
  have p8 := ((T6 p f4).2.2.2.1 f3).1
  have u15 := (T6 u f1).1
  have vu : vp_in (nI (nd u)) 15 := vi_15 u15
  have cu : (nI (nd u)).toNatClampNeg = nd u := cg_15 u15
  obtain ⟨a1, a2, a3, a4, a5, a6⟩ := ps_nd P f1 f2
  obtain ⟨w1, w2, w3, w4, w5, w6⟩ := (T6 u f1).2.2.2.2 f2
  have e : a_parent (nd p) = nI (nd u) := by
    rcases ch.2.2 with h | h
    · rw [h]; exact w5
    · rw [h]; exact w6
  refine ⟨vi_15 (by omega), ?_⟩
  rw [cg_15 (by omega)]
  refine nm_e ?_
  rw [e]
  refine br_f (tr_m1 (by omega)) ⟨vu, ?_⟩
  rw [cu]
  by_cases z : p = u + 1
  · have ef : a_first (nd u) = nI (nd p) := by rw [w3, z]
    refine br_t ef ⟨vu, ?_⟩
    rw [w4]
    have : en (u + 1) = s := by
      rw [if_pos z] at hs
      rw [← z, ps_lf P f4 f3]
      omega
    rw [this]
    exact K
  · have hq : p = en (u + 1) := by rcases ch.2.2 with h | h; exact absurd h z; exact h
    refine br_f (fun y => ?_) ⟨vu, ?_⟩
    · rw [w3] at y
      have b1 := (T6 _ a5).1
      have := tr_inj T a5 f4 ((nI_eq (by omega) (by omega)).mp y)
      omega
    · rw [if_neg z] at hs
      rw [w3, ← hs]
      exact K
theorem xc_45 {post : Int32 → St2 → Prop} {u p s d f f2 : Nat} (hf : nd p = f) (hf2 : nd (s + d) = f2) {yx yy yw yh xc yc : Nat → Int32} (G : rl_G c nd en po w0 h0 f_root a_parent a_first a_second a_orientation a_share a_leastWidth a_leastHeight a_rectX a_rectY a_rectW a_rectH kd vl a_live) (F : cl_F c kd en u p s) (p8 : f < 8)
    (Pn : ∀ g, g < 8 → rl_p a_live a_rectX a_rectY a_rectW a_rectH a_screenWidth a_screenHeight yx yy yw yh a_cursorRow a_cursorCol a_regionTop a_regionBottom a_parserMode a_paramOne a_paramTwo a_paramIndex xc yc g)
    (d1 : s + d < en s) (d2 : kd (s + d) = 0) (d3 : ∀ t, t < d → kd (s + t) ≠ 0)
    (K : ∀ (root' : Int32) (pa' fi' se' ori' lw lh rx ry rw rh ord : Nat → Int32), rl_G (c - 2) (fun j => nd (cl_r u p j)) (fun j => cl_d u p (en (cl_r u p j))) (fun n => cl_d u p (po n)) w0 h0 root' pa' fi' se' ori' a_share lw lh rx ry rw rh (fun j => kd (cl_r u p j)) (fun j => vl (cl_r u p j)) (upd a_live f 0) →
      fi_F (upd a_live f 0) a_screenWidth a_screenHeight rw rh (fi_k a_screenWidth rw) (fi_k a_screenHeight rh) →
      post 1 (nI w0, nI h0, root', nI f2, f_liveCount - 1, pa', fi', se', ori', a_share, lw, lh, rx, ry, rw, rh, ord, upd a_live f 0, fi_A (upd a_live f 0) 8 rw a_screenWidth, fi_A (upd a_live f 0) 8 rh a_screenHeight, fi_A (upd a_live f 0) 8 (fi_r a_cursorRow rh) a_cursorRow, fi_A (upd a_live f 0) 8 (fi_r a_cursorCol rw) a_cursorCol, fi_A (upd a_live f 0) 8 (fi_t a_regionTop a_regionBottom rh) a_regionTop, fi_A (upd a_live f 0) 8 (fi_b a_regionBottom rh) a_regionBottom, a_parserMode, a_paramOne, a_paramTwo, a_paramIndex, ce_w (fi_S (upd a_live f 0) (fi_k a_screenWidth rw) (fi_k a_screenHeight rh) 8) a_cells)) :
    wX_close_45 post (nI (nd u)) (nI (nd s)) (nI w0) (nI h0) f_root (nI f) f_liveCount a_parent a_first a_second a_orientation a_share a_leastWidth a_leastHeight a_rectX a_rectY a_rectW a_rectH a_order a_live a_screenWidth a_screenHeight a_cursorRow a_cursorCol a_regionTop a_regionBottom a_parserMode a_paramOne a_paramTwo a_paramIndex a_cells := by
  subst hf hf2
  exact xw_45 G F p8 Pn d1 d2 d3 K
end TX
end
section
/-- the panes, seen from the other object -/
theorem pr_sym {lv xx xy xw xh sw sh yx yy yw yh R C T B M P1 P2 K xc yc bsw bsh : Nat → Int32} {g : Nat} (h : rl_p lv xx xy xw xh sw sh yx yy yw yh R C T B M P1 P2 K xc yc g) (Sb : lv g ≠ 0 → bsw g = sw g ∧ bsh g = sh g) : rl_p lv yx yy yw yh bsw bsh xx xy xw xh R C T B M P1 P2 K yc xc g := by
  intro hl
  obtain ⟨a1, a2, a3, a4, a5, a6, w, hh, b1, b2, b3, b4, b5, b6, q, cr⟩ := h hl
  obtain ⟨s1, s2⟩ := Sb hl
  refine ⟨a1.symm, a2.symm, a3.symm, a4.symm, s1.trans (a5.trans a3.symm), s2.trans (a6.trans a4.symm), w, hh, a3.trans b1, a4.trans b2, b3, b4, b5, b6, q, ?_⟩
  intro j j1 j2
  obtain ⟨e, n, z⟩ := cr j j1 j2
  rw [← e]
  exact ⟨rfl, n, z⟩
theorem pr_eqs {c : Nat} {nd nb en po pb : Nat → Nat} {w0 h0 : Nat} {root root' : Int32} {pa fi se ori sr lw lh rx ry rw rh kd vl lv lv' dv pa' fi' se' ori' sr' lw' lh' rx' ry' rw' rh' sw sh R C T B bsw bsh : Nat → Int32}
    (Ga : rl_G c nd en po w0 h0 root pa fi se ori sr lw lh rx ry rw rh kd vl lv') (Gb : rl_G c nb en pb w0 h0 root' pa' fi' se' ori' sr' lw' lh' rx' ry' rw' rh' kd vl lv') (hd : ∀ g, g < 8 → dv g ≠ 0 → lv g ≠ 0 ∧ lv' g ≠ 0) (Sb : ∀ g, g < 8 → lv g ≠ 0 → bsw g = sw g ∧ bsh g = sh g) :
    fi_A dv 8 (fi_r R rh') R = fi_A dv 8 (fi_r R rh) R ∧ fi_A dv 8 (fi_r C rw') C = fi_A dv 8 (fi_r C rw) C ∧ fi_A dv 8 (fi_t T B rh') T = fi_A dv 8 (fi_t T B rh) T ∧ fi_A dv 8 (fi_b B rh') B = fi_A dv 8 (fi_b B rh) B ∧
    (∀ a, ce_w (fi_S dv (fi_k bsw rw') (fi_k bsh rh') 8) a = ce_w (fi_S dv (fi_k sw rw) (fi_k sh rh) 8) a) ∧
    (∀ g, g < 8 → dv g ≠ 0 → fi_A dv 8 rw' bsw g = fi_A dv 8 rw sw g ∧ fi_A dv 8 rh' bsh g = fi_A dv 8 rh sh g) := by
  have eq : ∀ g, g < 8 → dv g ≠ 0 → rx' g = rx g ∧ ry' g = ry g ∧ rw' g = rw g ∧ rh' g = rh g := fun g hg hz => pr_live Ga Gb g hg (hd g hg hz).2
  refine ⟨?_, ?_, ?_, ?_, fun a => fi_Sc (fun g hg hz => ?_), fun g hg hz => ?_⟩
  · exact fi_Ae (fun g hg hz => by unfold fi_r; rw [(eq g hg hz).2.2.2])
  · exact fi_Ae (fun g hg hz => by unfold fi_r; rw [(eq g hg hz).2.2.1])
  · exact fi_Ae (fun g hg hz => by unfold fi_t; rw [(eq g hg hz).2.2.2])
  · exact fi_Ae (fun g hg hz => by unfold fi_b; rw [(eq g hg hz).2.2.2])
  · unfold fi_k
    rw [(eq g hg hz).2.2.1, (eq g hg hz).2.2.2, (Sb g hg (hd g hg hz).1).1, (Sb g hg (hd g hg hz).1).2]
    exact ⟨rfl, rfl⟩
  · rw [fi_An hg hz, fi_An hg hz, fi_An hg hz, fi_An hg hz]
    exact ⟨(eq g hg hz).2.2.1, (eq g hg hz).2.2.2⟩
theorem pr_split {u v : St2} {A : Int32 → St2 → Prop} (v1 : Int32) (R : pr_R u v) (K : ∀ r u', (∀ B : Int32 → St2 → Prop, (∀ r' v', pr_R u' v' → B r' v') → wpX_split B v v1) → A r u') : wpX_split A u v1 := by
  obtain ⟨f_hostWidth, f_hostHeight, f_root, f_focusedPane, f_liveCount, a_parent, a_first, a_second, a_orientation, a_share, a_leastWidth, a_leastHeight, a_rectX, a_rectY, a_rectW, a_rectH, a_order, a_live, a_screenWidth, a_screenHeight, a_cursorRow, a_cursorCol, a_regionTop, a_regionBottom, a_parserMode, a_paramOne, a_paramTwo, a_paramIndex, a_cells⟩ := u
  obtain ⟨f_bhostWidth, f_bhostHeight, f_broot, f_bfocusedPane, f_bliveCount, a_bparent, a_bfirst, a_bsecond, a_borientation, a_bshare, a_bleastWidth, a_bleastHeight, a_brectX, a_brectY, a_brectW, a_brectH, a_border, a_blive, a_bscreenWidth, a_bscreenHeight, a_bcursorRow, a_bcursorCol, a_bregionTop, a_bregionBottom, a_bparserMode, a_bparamOne, a_bparamTwo, a_bparamIndex, a_bcells⟩ := v
  obtain ⟨c, kd, vl, nd, nb, en, po, pb, w0, h0, f, J⟩ := R
  have J0 := J
  obtain ⟨rfl, rfl, rfl, rfl, j5, rfl, rfl, j8, j9, rfl, rfl, rfl, rfl, rfl, rfl, rfl, rfl, rfl, rfl, Ga, Gb, Pn, Sb⟩ := J
  have R0 : pr_R (nI w0, nI h0, f_root, nI f, f_liveCount, a_parent, a_first, a_second, a_orientation, a_share, a_leastWidth, a_leastHeight, a_rectX, a_rectY, a_rectW, a_rectH, a_order, a_live, a_screenWidth, a_screenHeight, a_cursorRow, a_cursorCol, a_regionTop, a_regionBottom, a_parserMode, a_paramOne, a_paramTwo, a_paramIndex, a_cells) (nI w0, nI h0, f_broot, nI f, f_liveCount, a_bparent, a_bfirst, a_bsecond, a_borientation, a_bshare, a_bleastWidth, a_bleastHeight, a_brectX, a_brectY, a_brectW, a_brectH, a_border, a_live, a_bscreenWidth, a_bscreenHeight, a_cursorRow, a_cursorCol, a_regionTop, a_regionBottom, a_parserMode, a_paramOne, a_paramTwo, a_paramIndex, a_bcells) := ⟨c, kd, vl, nd, nb, en, po, pb, w0, h0, f, J0⟩
  obtain ⟨p, hp, kp, ep⟩ := rl_leaf Ga j5 j8
  have lf := (pr_un Ga Gb).2
  have epb : nb p = f := (lf p hp kp).trans ep
  have lvE := pr_live Ga Gb f j5 j8
  have cnt := lv_c Ga.1 Ga.2.2.2.2.2.2.2.2.2
  have no : ((v1 ≠ 1 ∧ v1 ≠ 2) ∨ (∀ g, g < 8 → a_live g ≠ 0) ∨ ((v1 = 1 → ¬ nI 3 ≤ a_rectW f) ∧ (v1 = 2 → ¬ nI 3 ≤ a_rectH f))) → wpX_split A (nI w0, nI h0, f_root, nI f, f_liveCount, a_parent, a_first, a_second, a_orientation, a_share, a_leastWidth, a_leastHeight, a_rectX, a_rectY, a_rectW, a_rectH, a_order, a_live, a_screenWidth, a_screenHeight, a_cursorRow, a_cursorCol, a_regionTop, a_regionBottom, a_parserMode, a_paramOne, a_paramTwo, a_paramIndex, a_cells) v1 := by
    intro h
    refine xs_no ep j5 h (K _ _ (fun B KB => xs_no epb j5 ?_ (KB _ _ R0)))
    rw [lvE.2.2.1, lvE.2.2.2]
    exact h
  by_cases hv : v1 = 1 ∨ v1 = 2
  · by_cases all : ∀ g, g < 8 → a_live g ≠ 0
    · exact no (Or.inr (Or.inl all))
    · have ex : ∃ g, g < 8 ∧ a_live g = 0 := by
        apply Classical.byContradiction
        intro y
        exact all (fun g hg hz => y ⟨g, hg, hz⟩)
      obtain ⟨g, ⟨hg, h0'⟩, least⟩ := pk_least _ ex
      have hl : ∀ i, i < g → a_live i ≠ 0 := fun i hi hz => least i hi ⟨by omega, hz⟩
      by_cases rm : (v1 = 1 → nI 3 ≤ a_rectW f) ∧ (v1 = 2 → nI 3 ≤ a_rectH f)
      · refine xs_yes Ga Pn ep hp kp hv hg h0' hl rm.1 rm.2 (fun nd' po' root' pa' fi' se' ori' sr' lw lh rx ry rw rh ord Ga' F => ?_)
        refine K _ _ (fun B KB => xs_yes Gb (fun x hx => pr_sym (Pn x hx) (Sb x hx)) epb hp kp hv hg h0' hl (by rw [lvE.2.2.1]; exact rm.1) (by rw [lvE.2.2.2]; exact rm.2) (fun nd2 po2 root2 pa2 fi2 se2 ori2 sr2 lw2 lh2 rx2 ry2 rw2 rh2 ord2 Gb' F2 => ?_))
        have lup : ∀ x, a_live x ≠ 0 → upd a_live g 1 x ≠ 0 := by
          intro x hx
          have : x ≠ g := fun e => hx (by rw [e]; exact h0')
          rw [pk_un this]; exact hx
        have lg : upd a_live g 1 g ≠ 0 := by rw [pk_us]; decide
        obtain ⟨q1, q2, q3, q4, q5, q6⟩ := pr_eqs (dv := a_live) (lv := a_live) (R := a_cursorRow) (C := a_cursorCol) (T := a_regionTop) (B := a_regionBottom) Ga' Gb' (fun x hx hz => ⟨hz, lup x hz⟩) Sb
        have re := pr_live Ga' Gb'
        have rg := re g hg lg
        rw [q1, q2, q3, q4, q5, rg.2.2.2]
        have cnt' := lv_c Ga'.1 Ga'.2.2.2.2.2.2.2.2.2
        refine KB _ _ ⟨c + 2, _, _, nd', nd2, _, po', po2, w0, h0, g, rfl, rfl, rfl, rfl, hg, rfl, rfl, lg, ?_, rfl, rfl, rfl, rfl, rfl, rfl, rfl, rfl, rfl, rfl, Ga', Gb', ?_, ?_⟩
        · rw [j9, nI_1]
          exact congrArg nI (by omega)
        · intro x hx
          by_cases z : x = g
          · subst z
            intro _
            obtain ⟨sx1, sy1, nw, nh, s1, s2, s3, s4, s5, s6, s7, s8, _⟩ := rl_sz Ga' hx lg
            refine ⟨rg.1, rg.2.1, rg.2.2.1, rg.2.2.2, pk_us, pk_us, nw, nh, s3, s4, s5, s6, s7, s8, ⟨0, 0, 0, nh - 1, 0, 0, 0, 0, pk_us, by omega, pk_us, by omega, pk_us, ?_, by omega, by omega, pk_us, by omega, pk_us, by omega, pk_us, by omega, pk_us, by omega⟩, fi_new⟩
            rw [pk_us, s4, la_sub1 s7]
          · intro hlx
            have hx0 : a_live x ≠ 0 := by rw [pk_un z] at hlx; exact hlx
            have base := rl_re (lv' := upd a_live g 1) hx hx0 hx0 (Pn x hx) F (re x hx hlx)
            exact rl_cg base id ⟨pk_un z, pk_un z⟩ ⟨pk_un z, pk_un z, pk_un z, pk_un z, pk_un z, pk_un z, pk_un z, pk_un z⟩ (fun w h cr => ce_Oo (fi_newO (B := g * 288)) (fi_newO (B := g * 288)) (by omega) cr) hlx
        · intro x hx hlx
          by_cases z : x = g
          · subst z
            rw [pk_us, pk_us, pk_us, pk_us]
            exact ⟨rg.2.2.1, rfl⟩
          · have hx0 : a_live x ≠ 0 := by rw [pk_un z] at hlx; exact hlx
            rw [pk_un z, pk_un z, pk_un z, pk_un z]
            exact q6 x hx hx0
      · refine no (Or.inr (Or.inr ⟨fun h1 y => rm ⟨fun _ => y, fun h2 => (ge_12 h1 h2).elim⟩, fun h2 y => rm ⟨fun h1 => (ge_12 h1 h2).elim, fun _ => y⟩⟩))
  · exact no (Or.inl ⟨fun h => hv (Or.inl h), fun h => hv (Or.inr h)⟩)
theorem pr_close {u v : St2} {A : Int32 → St2 → Prop} (R : pr_R u v) (K : ∀ r u', (∀ B : Int32 → St2 → Prop, (∀ r' v', pr_R u' v' → B r' v') → wpX_close B v) → A r u') : wpX_close A u := by
  obtain ⟨f_hostWidth, f_hostHeight, f_root, f_focusedPane, f_liveCount, a_parent, a_first, a_second, a_orientation, a_share, a_leastWidth, a_leastHeight, a_rectX, a_rectY, a_rectW, a_rectH, a_order, a_live, a_screenWidth, a_screenHeight, a_cursorRow, a_cursorCol, a_regionTop, a_regionBottom, a_parserMode, a_paramOne, a_paramTwo, a_paramIndex, a_cells⟩ := u
  obtain ⟨f_bhostWidth, f_bhostHeight, f_broot, f_bfocusedPane, f_bliveCount, a_bparent, a_bfirst, a_bsecond, a_borientation, a_bshare, a_bleastWidth, a_bleastHeight, a_brectX, a_brectY, a_brectW, a_brectH, a_border, a_blive, a_bscreenWidth, a_bscreenHeight, a_bcursorRow, a_bcursorCol, a_bregionTop, a_bregionBottom, a_bparserMode, a_bparamOne, a_bparamTwo, a_bparamIndex, a_bcells⟩ := v
  obtain ⟨c, kd, vl, nd, nb, en, po, pb, w0, h0, f, J⟩ := R
  have J0 := J
  obtain ⟨rfl, rfl, rfl, rfl, j5, rfl, rfl, j8, j9, rfl, rfl, rfl, rfl, rfl, rfl, rfl, rfl, rfl, rfl, Ga, Gb, Pn, Sb⟩ := J
  have R0 : pr_R (nI w0, nI h0, f_root, nI f, f_liveCount, a_parent, a_first, a_second, a_orientation, a_share, a_leastWidth, a_leastHeight, a_rectX, a_rectY, a_rectW, a_rectH, a_order, a_live, a_screenWidth, a_screenHeight, a_cursorRow, a_cursorCol, a_regionTop, a_regionBottom, a_parserMode, a_paramOne, a_paramTwo, a_paramIndex, a_cells) (nI w0, nI h0, f_broot, nI f, f_liveCount, a_bparent, a_bfirst, a_bsecond, a_borientation, a_bshare, a_bleastWidth, a_bleastHeight, a_brectX, a_brectY, a_brectW, a_brectH, a_border, a_live, a_bscreenWidth, a_bscreenHeight, a_cursorRow, a_cursorCol, a_regionTop, a_regionBottom, a_parserMode, a_paramOne, a_paramTwo, a_paramIndex, a_bcells) := ⟨c, kd, vl, nd, nb, en, po, pb, w0, h0, f, J0⟩
  obtain ⟨p, hp, kp, ep⟩ := rl_leaf Ga j5 j8
  have lf := (pr_un Ga Gb).2
  have epb : nb p = f := (lf p hp kp).trans ep
  have cnt := lv_c Ga.1 Ga.2.2.2.2.2.2.2.2.2
  have T := Ga.1
  have Tb := Gb.1
  have P := T.1
  have g7 := Ga.2.2.2.2.2.2.2.2.2
  rcases ps_par P p hp with p0 | ⟨u, ch⟩
  · subst p0
    exact xc_no ep j5 T.2.2.2.1 (K _ _ (fun B KB => xc_no epb j5 Tb.2.2.2.1 (KB _ _ R0)))
  · have F := cl_mk (s := if p = u + 1 then u + 2 else u + 1) P kp ch rfl
    generalize hs : (if p = u + 1 then u + 2 else u + 1) = s at F
    obtain ⟨_, f1, f2, f3, f4, f5, f6, f7, f8, f9, f10⟩ := id F
    obtain ⟨d, d1, d2, d3⟩ := ps_fl P s f5
    have ses := (P.2.2 s f5).2.1
    have n8 := ((T.2.2.2.2.2.1 (s + d) (by omega)).2.2.2.1 d2).1
    have lsd := lf (s + d) (by omega) d2
    refine xc_yes ep T F ch hs.symm (xc_45 ep rfl Ga F j5 Pn d1 d2 d3 (fun root' pa' fi' se' ori' lw lh rx ry rw rh ord Ga' Fi => ?_))
    refine K _ _ (fun B KB => xc_yes epb Tb F ch hs.symm (xc_45 epb lsd Gb F j5 (fun x hx => pr_sym (Pn x hx) (Sb x hx)) d1 d2 d3 (fun root2 pa2 fi2 se2 ori2 lw2 lh2 rx2 ry2 rw2 rh2 ord2 Gb' Fi2 => ?_)))
    have dn : ∀ x, upd a_live f 0 x ≠ 0 → a_live x ≠ 0 := by
      intro x hx
      by_cases z : x = f
      · rw [z, pk_us] at hx; exact absurd rfl hx
      · rw [pk_un z] at hx; exact hx
    obtain ⟨q1, q2, q3, q4, q5, q6⟩ := pr_eqs (dv := upd a_live f 0) (lv := a_live) (R := a_cursorRow) (C := a_cursorCol) (T := a_regionTop) (B := a_regionBottom) Ga' Gb' (fun x hx hz => ⟨dn x hz, hz⟩) Sb
    rw [q1, q2, q3, q4, q5]
    have cnt' := lv_c Ga'.1 Ga'.2.2.2.2.2.2.2.2.2
    have sp : nd (s + d) ≠ f := fun y => by
      rw [← ep] at y
      have := tr_inj T (by omega) hp y
      rcases f7 with ⟨x1, x2, x3, x4, x5⟩ | ⟨x1, x2, x3, x4⟩
      · omega
      · have es : en s = p := by rw [x2]; exact x1.symm
        omega
    refine KB _ _ ⟨c - 2, _, _, _, _, _, _, _, w0, h0, nd (s + d), rfl, rfl, rfl, rfl, n8, rfl, rfl, ?_, ?_, rfl, rfl, rfl, rfl, rfl, rfl, rfl, rfl, rfl, rfl, Ga', Gb', rl_fin Ga' (fun x hx hl => dn x hl) Pn Fi (pr_RE Ga' Gb'), q6⟩
    · rw [pk_un sp]
      exact (g7 _ n8).2.mpr ⟨s + d, by omega, rfl⟩
    · rw [j9, la_sub1 (by omega)]
      exact congrArg nI (by omega)
end
section
theorem ce_Hp {B k n : Nat} {a : Nat → Int32} (H : ce_H B a) (hn : n < 65536) : ce_H B (upd a k (nI n)) := by
  intro j h1 h2
  by_cases z : j = k
  · subst z; rw [pk_us]; exact ⟨n, hn, rfl⟩
  · rw [pk_un z]; exact H j h1 h2
/-- what feeding makes of pane g: the same for every object that keeps the same for it -/
def fo_C (R C T B M P1 P2 K : Nat → Int32) (g w h : Nat) (v2 : Int32) : Prop :=
  ∃ (R' C' T' B' M' P1' P2' K' : Nat → Int32) (fx : (Nat → Int32) → (Nat → Int32)), (∀ i, i ≠ g → R' i = R i ∧ C' i = C i ∧ T' i = T i ∧ B' i = B i ∧ M' i = M i ∧ P1' i = P1 i ∧ P2' i = P2 i ∧ K' i = K i) ∧ rl_q w h R' C' T' B' M' P1' P2' K' g ∧
    (∀ x y, ce_R (g * 288) w h x y → ce_R (g * 288) w h (fx x) (fx y)) ∧ (∀ x, ce_O (g * 288) x (fx x)) ∧
    ∀ (f_hostWidth f_hostHeight f_root f_focusedPane f_liveCount : Int32) (a_parent a_first a_second a_orientation a_share a_leastWidth a_leastHeight a_rectX a_rectY a_rectW a_rectH a_order a_live a_screenWidth a_screenHeight a_cursorRow a_cursorCol a_regionTop a_regionBottom a_parserMode a_paramOne a_paramTwo a_paramIndex a_cells : Nat → Int32), a_live g ≠ 0 → a_screenWidth g = nI w → a_screenHeight g = nI h → ce_H (g * 288) a_cells → ∀ post : Int32 → St2 → Prop, post 1 (f_hostWidth, f_hostHeight, f_root, f_focusedPane, f_liveCount, a_parent, a_first, a_second, a_orientation, a_share, a_leastWidth, a_leastHeight, a_rectX, a_rectY, a_rectW, a_rectH, a_order, a_live, a_screenWidth, a_screenHeight, R', C', T', B', M', P1', P2', K', fx a_cells) → wpX_feed post (f_hostWidth, f_hostHeight, f_root, f_focusedPane, f_liveCount, a_parent, a_first, a_second, a_orientation, a_share, a_leastWidth, a_leastHeight, a_rectX, a_rectY, a_rectW, a_rectH, a_order, a_live, a_screenWidth, a_screenHeight, R, C, T, B, M, P1, P2, K, a_cells) (nI g) v2
section FO
variable {R C T B M P1 P2 K : Nat → Int32} {g w h r q t b m a d kk v : Nat} {v2 : Int32}
/-- a transformer that leaves the cells -/
theorem fo_id1 {B w h : Nat} : ∀ x y, ce_R B w h x y → ce_R B w h (id x) (id y) := fun _ _ z => z
theorem fo_id2 {B : Nat} : ∀ x, ce_O B x (id x) := fun _ _ _ => rfl
theorem fo_pr (hg : g < 8) (w4 : w ≤ 24) (h4 : h ≤ 12) (e1 : R g = nI r) (e2 : r < h) (e3 : C g = nI q) (e4 : q < w) (e5 : T g = nI t) (e6 : B g = nI b) (e7 : t ≤ b) (e8 : b < h) (e9 : M g = nI 0) (e11 : P1 g = nI a) (e12 : a ≤ 99) (e13 : P2 g = nI d) (e14 : d ≤ 99) (e15 : K g = nI kk) (e16 : kk ≤ 2) (ev : v2 &&& 255 = nI v) (h32 : 32 ≤ v) (h126 : v ≤ 126) : fo_C R C T B M P1 P2 K g w h v2 := by
  have uu : ∀ (A : Nat → Int32) (x y : Int32) (i : Nat), i ≠ g → upd (upd A g x) g y i = A i := fun A x y i hi => by rw [pk_un hi, pk_un hi]
  have px : ∀ x y, ce_R (g * 288) w h x y → ce_R (g * 288) w h (upd x (g * 288 + r * 24 + q) (nI v)) (upd y (g * 288 + r * 24 + q) (nI v)) := fun x y cr => ce_Rp cr (by omega) (by omega) (by omega) (by omega)
  have po : ∀ x, ce_O (g * 288) x (upd x (g * 288 + r * 24 + q) (nI v)) := fun x => ce_Op (by omega) (by omega)
  by_cases z : q + 1 = w
  · by_cases z1 : r = b
    · refine ⟨R, upd (upd C g (nI (q + 1))) g 0, T, B, M, P1, P2, K, (fun x => ce_n (g * 288 + t * 24) (g * 288 + b * 24) 1 (upd x (g * 288 + r * 24 + q) (nI v))), (fun i hi => ⟨rfl, uu _ _ _ i hi, rfl, rfl, rfl, rfl, rfl, rfl⟩), ⟨r, 0, t, b, 0, a, d, kk, e1, e2, pk_us, by omega, e5, e6, e7, e8, e9, by omega, e11, e12, e13, e14, e15, e16⟩, (fun x y cr => ce_Rn (by omega) e8 1 (px x y cr)), (fun x j hj => (ce_On (by omega) 1 j hj).trans (po x j hj)), ?_⟩
      intro f_hostWidth f_hostHeight f_root f_focusedPane f_liveCount a_parent a_first a_second a_orientation a_share a_leastWidth a_leastHeight a_rectX a_rectY a_rectW a_rectH a_order a_live a_screenWidth a_screenHeight a_cursorRow a_cursorCol a_regionTop a_regionBottom a_parserMode a_paramOne a_paramTwo a_paramIndex a_cells hl s1 s2 H post KK
      exact xw_feed hg hl ev e9 (by omega) (fun _ => br_f (nI_nlt (b := 32) h32 (by omega)) (br_f (nI_nlt (a := 126) h126 (by omega)) (xw_print (h := h) (w := w) hg e5 e6 e7 (by omega) e1 e2 h4 s2 e3 e4 w4 s1 (by omega) (ce_Hp H (by omega)) (fun y => absurd z y) (fun _ _ => KK) (fun _ y => absurd z1 y) (fun _ y => absurd z1 y)))) (fun y => by omega) (fun y => by omega)
    · by_cases z2 : h - 1 ≤ r
      · refine ⟨R, upd (upd C g (nI (q + 1))) g 0, T, B, M, P1, P2, K, (fun x => upd x (g * 288 + r * 24 + q) (nI v)), (fun i hi => ⟨rfl, uu _ _ _ i hi, rfl, rfl, rfl, rfl, rfl, rfl⟩), ⟨r, 0, t, b, 0, a, d, kk, e1, e2, pk_us, by omega, e5, e6, e7, e8, e9, by omega, e11, e12, e13, e14, e15, e16⟩, px, po, ?_⟩
        intro f_hostWidth f_hostHeight f_root f_focusedPane f_liveCount a_parent a_first a_second a_orientation a_share a_leastWidth a_leastHeight a_rectX a_rectY a_rectW a_rectH a_order a_live a_screenWidth a_screenHeight a_cursorRow a_cursorCol a_regionTop a_regionBottom a_parserMode a_paramOne a_paramTwo a_paramIndex a_cells hl s1 s2 H post KK
        exact xw_feed hg hl ev e9 (by omega) (fun _ => br_f (nI_nlt (b := 32) h32 (by omega)) (br_f (nI_nlt (a := 126) h126 (by omega)) (xw_print (h := h) (w := w) hg e5 e6 e7 (by omega) e1 e2 h4 s2 e3 e4 w4 s1 (by omega) (ce_Hp H (by omega)) (fun y => absurd z y) (fun _ y => absurd y z1) (fun _ _ _ => KK) (fun _ _ y => by omega)))) (fun y => by omega) (fun y => by omega)
      · refine ⟨upd R g (nI (r + 1)), upd (upd C g (nI (q + 1))) g 0, T, B, M, P1, P2, K, (fun x => upd x (g * 288 + r * 24 + q) (nI v)), (fun i hi => ⟨pk_un hi, uu _ _ _ i hi, rfl, rfl, rfl, rfl, rfl, rfl⟩), ⟨r + 1, 0, t, b, 0, a, d, kk, pk_us, by omega, pk_us, by omega, e5, e6, e7, e8, e9, by omega, e11, e12, e13, e14, e15, e16⟩, px, po, ?_⟩
        intro f_hostWidth f_hostHeight f_root f_focusedPane f_liveCount a_parent a_first a_second a_orientation a_share a_leastWidth a_leastHeight a_rectX a_rectY a_rectW a_rectH a_order a_live a_screenWidth a_screenHeight a_cursorRow a_cursorCol a_regionTop a_regionBottom a_parserMode a_paramOne a_paramTwo a_paramIndex a_cells hl s1 s2 H post KK
        exact xw_feed hg hl ev e9 (by omega) (fun _ => br_f (nI_nlt (b := 32) h32 (by omega)) (br_f (nI_nlt (a := 126) h126 (by omega)) (xw_print (h := h) (w := w) hg e5 e6 e7 (by omega) e1 e2 h4 s2 e3 e4 w4 s1 (by omega) (ce_Hp H (by omega)) (fun y => absurd z y) (fun _ y => absurd y z1) (fun _ _ y => by omega) (fun _ _ _ => KK)))) (fun y => by omega) (fun y => by omega)
  · refine ⟨R, upd C g (nI (q + 1)), T, B, M, P1, P2, K, (fun x => upd x (g * 288 + r * 24 + q) (nI v)), (fun i hi => ⟨rfl, pk_un hi, rfl, rfl, rfl, rfl, rfl, rfl⟩), ⟨r, q + 1, t, b, 0, a, d, kk, e1, e2, pk_us, by omega, e5, e6, e7, e8, e9, by omega, e11, e12, e13, e14, e15, e16⟩, px, po, ?_⟩
    intro f_hostWidth f_hostHeight f_root f_focusedPane f_liveCount a_parent a_first a_second a_orientation a_share a_leastWidth a_leastHeight a_rectX a_rectY a_rectW a_rectH a_order a_live a_screenWidth a_screenHeight a_cursorRow a_cursorCol a_regionTop a_regionBottom a_parserMode a_paramOne a_paramTwo a_paramIndex a_cells hl s1 s2 H post KK
    exact xw_feed hg hl ev e9 (by omega) (fun _ => br_f (nI_nlt (b := 32) h32 (by omega)) (br_f (nI_nlt (a := 126) h126 (by omega)) (xw_print (h := h) (w := w) hg e5 e6 e7 (by omega) e1 e2 h4 s2 e3 e4 w4 s1 (by omega) (ce_Hp H (by omega)) (fun _ => KK) (fun y => absurd y z) (fun y => absurd y z) (fun y => absurd y z)))) (fun y => by omega) (fun y => by omega)
theorem fo_ct (hg : g < 8) (w4 : w ≤ 24) (h4 : h ≤ 12) (e1 : R g = nI r) (e2 : r < h) (e3 : C g = nI q) (e4 : q < w) (e5 : T g = nI t) (e6 : B g = nI b) (e7 : t ≤ b) (e8 : b < h) (e9 : M g = nI 0) (e11 : P1 g = nI a) (e12 : a ≤ 99) (e13 : P2 g = nI d) (e14 : d ≤ 99) (e15 : K g = nI kk) (e16 : kk ≤ 2) (ev : v2 &&& 255 = nI v) (hv : v < 256) (hc : v < 32 ∨ 126 < v) : fo_C R C T B M P1 P2 K g w h v2 := by
  have v8 := vi_8 hg
  have e := cg_8 hg
  have G21 : ∀ (f_hostWidth f_hostHeight f_root f_focusedPane f_liveCount : Int32) (a_parent a_first a_second a_orientation a_share a_leastWidth a_leastHeight a_rectX a_rectY a_rectW a_rectH a_order a_live a_screenWidth a_screenHeight a_cursorRow a_cursorCol a_regionTop a_regionBottom a_parserMode a_paramOne a_paramTwo a_paramIndex a_cells : Nat → Int32) (post : St2 → Prop), wX_feedGround_21 post (nI g) (nI v) f_hostWidth f_hostHeight f_root f_focusedPane f_liveCount a_parent a_first a_second a_orientation a_share a_leastWidth a_leastHeight a_rectX a_rectY a_rectW a_rectH a_order a_live a_screenWidth a_screenHeight R C T B M P1 P2 K a_cells → wpX_feedGround post (f_hostWidth, f_hostHeight, f_root, f_focusedPane, f_liveCount, a_parent, a_first, a_second, a_orientation, a_share, a_leastWidth, a_leastHeight, a_rectX, a_rectY, a_rectW, a_rectH, a_order, a_live, a_screenWidth, a_screenHeight, R, C, T, B, M, P1, P2, K, a_cells) (nI g) (nI v) := by
    intro f_hostWidth f_hostHeight f_root f_focusedPane f_liveCount a_parent a_first a_second a_orientation a_share a_leastWidth a_leastHeight a_rectX a_rectY a_rectW a_rectH a_order a_live a_screenWidth a_screenHeight a_cursorRow a_cursorCol a_regionTop a_regionBottom a_parserMode a_paramOne a_paramTwo a_paramIndex a_cells post KK
    by_cases z : v < 32
    · exact br_t (nI_lt (b := 32) z (by omega)) KK
    · exact br_f (nI_nlt (b := 32) (by omega) (by omega)) (br_t (nI_lt (a := 126) (by omega) (by omega)) KK)
  by_cases z10 : v = 10
  · subst z10
    by_cases z1 : r = b
    · refine ⟨R, C, T, B, M, P1, P2, K, (fun x => ce_n (g * 288 + t * 24) (g * 288 + b * 24) 1 x), (fun i hi => ⟨rfl, rfl, rfl, rfl, rfl, rfl, rfl, rfl⟩), ⟨r, q, t, b, 0, a, d, kk, e1, e2, e3, e4, e5, e6, e7, e8, e9, by omega, e11, e12, e13, e14, e15, e16⟩, (fun x y cr => ce_Rn (by omega) e8 1 cr), (fun x => ce_On (by omega) 1), ?_⟩
      intro f_hostWidth f_hostHeight f_root f_focusedPane f_liveCount a_parent a_first a_second a_orientation a_share a_leastWidth a_leastHeight a_rectX a_rectY a_rectW a_rectH a_order a_live a_screenWidth a_screenHeight a_cursorRow a_cursorCol a_regionTop a_regionBottom a_parserMode a_paramOne a_paramTwo a_paramIndex a_cells hl s1 s2 H post KK
      exact xw_feed hg hl ev e9 (by omega) (fun _ => G21 f_hostWidth f_hostHeight f_root f_focusedPane f_liveCount a_parent a_first a_second a_orientation a_share a_leastWidth a_leastHeight a_rectX a_rectY a_rectW a_rectH a_order a_live a_screenWidth a_screenHeight a_cursorRow a_cursorCol a_regionTop a_regionBottom a_parserMode a_paramOne a_paramTwo a_paramIndex a_cells _ (br_t rfl (xw_lineFeed (h := h) hg e5 e6 e7 (by omega) e1 e2 h4 s2 H (fun _ => KK) (fun y => absurd z1 y) (fun y => absurd z1 y)))) (fun y => by omega) (fun y => by omega)
    · by_cases z2 : h - 1 ≤ r
      · refine ⟨R, C, T, B, M, P1, P2, K, id, (fun i hi => ⟨rfl, rfl, rfl, rfl, rfl, rfl, rfl, rfl⟩), ⟨r, q, t, b, 0, a, d, kk, e1, e2, e3, e4, e5, e6, e7, e8, e9, by omega, e11, e12, e13, e14, e15, e16⟩, fo_id1, fo_id2, ?_⟩
        intro f_hostWidth f_hostHeight f_root f_focusedPane f_liveCount a_parent a_first a_second a_orientation a_share a_leastWidth a_leastHeight a_rectX a_rectY a_rectW a_rectH a_order a_live a_screenWidth a_screenHeight a_cursorRow a_cursorCol a_regionTop a_regionBottom a_parserMode a_paramOne a_paramTwo a_paramIndex a_cells hl s1 s2 H post KK
        exact xw_feed hg hl ev e9 (by omega) (fun _ => G21 f_hostWidth f_hostHeight f_root f_focusedPane f_liveCount a_parent a_first a_second a_orientation a_share a_leastWidth a_leastHeight a_rectX a_rectY a_rectW a_rectH a_order a_live a_screenWidth a_screenHeight a_cursorRow a_cursorCol a_regionTop a_regionBottom a_parserMode a_paramOne a_paramTwo a_paramIndex a_cells _ (br_t rfl (xw_lineFeed (h := h) hg e5 e6 e7 (by omega) e1 e2 h4 s2 H (fun y => absurd y z1) (fun _ _ => KK) (fun _ y => by omega)))) (fun y => by omega) (fun y => by omega)
      · refine ⟨upd R g (nI (r + 1)), C, T, B, M, P1, P2, K, id, (fun i hi => ⟨pk_un hi, rfl, rfl, rfl, rfl, rfl, rfl, rfl⟩), ⟨r + 1, q, t, b, 0, a, d, kk, pk_us, by omega, e3, e4, e5, e6, e7, e8, e9, by omega, e11, e12, e13, e14, e15, e16⟩, fo_id1, fo_id2, ?_⟩
        intro f_hostWidth f_hostHeight f_root f_focusedPane f_liveCount a_parent a_first a_second a_orientation a_share a_leastWidth a_leastHeight a_rectX a_rectY a_rectW a_rectH a_order a_live a_screenWidth a_screenHeight a_cursorRow a_cursorCol a_regionTop a_regionBottom a_parserMode a_paramOne a_paramTwo a_paramIndex a_cells hl s1 s2 H post KK
        exact xw_feed hg hl ev e9 (by omega) (fun _ => G21 f_hostWidth f_hostHeight f_root f_focusedPane f_liveCount a_parent a_first a_second a_orientation a_share a_leastWidth a_leastHeight a_rectX a_rectY a_rectW a_rectH a_order a_live a_screenWidth a_screenHeight a_cursorRow a_cursorCol a_regionTop a_regionBottom a_parserMode a_paramOne a_paramTwo a_paramIndex a_cells _ (br_t rfl (xw_lineFeed (h := h) hg e5 e6 e7 (by omega) e1 e2 h4 s2 H (fun y => absurd y z1) (fun _ y => by omega) (fun _ _ => KK)))) (fun y => by omega) (fun y => by omega)
  have n10 : ¬ nI v = 10 := fun y => z10 ((nI_eq (b := 10) (by omega) (by omega)).mp y)
  by_cases z13 : v = 13
  · subst z13
    refine ⟨R, upd C g 0, T, B, M, P1, P2, K, id, (fun i hi => ⟨rfl, pk_un hi, rfl, rfl, rfl, rfl, rfl, rfl⟩), ⟨r, 0, t, b, 0, a, d, kk, e1, e2, pk_us, by omega, e5, e6, e7, e8, e9, by omega, e11, e12, e13, e14, e15, e16⟩, fo_id1, fo_id2, ?_⟩
    intro f_hostWidth f_hostHeight f_root f_focusedPane f_liveCount a_parent a_first a_second a_orientation a_share a_leastWidth a_leastHeight a_rectX a_rectY a_rectW a_rectH a_order a_live a_screenWidth a_screenHeight a_cursorRow a_cursorCol a_regionTop a_regionBottom a_parserMode a_paramOne a_paramTwo a_paramIndex a_cells hl s1 s2 H post KK
    exact xw_feed hg hl ev e9 (by omega) (fun _ => G21 f_hostWidth f_hostHeight f_root f_focusedPane f_liveCount a_parent a_first a_second a_orientation a_share a_leastWidth a_leastHeight a_rectX a_rectY a_rectW a_rectH a_order a_live a_screenWidth a_screenHeight a_cursorRow a_cursorCol a_regionTop a_regionBottom a_parserMode a_paramOne a_paramTwo a_paramIndex a_cells _ (br_f n10 (br_t rfl ⟨v8, nm_r (e' := upd C g 0) (by rw [e]) KK⟩))) (fun y => by omega) (fun y => by omega)
  have n13 : ¬ nI v = 13 := fun y => z13 ((nI_eq (b := 13) (by omega) (by omega)).mp y)
  by_cases z8 : v = 8
  · subst z8
    cases q with
    | zero =>
      refine ⟨R, C, T, B, M, P1, P2, K, id, (fun i hi => ⟨rfl, rfl, rfl, rfl, rfl, rfl, rfl, rfl⟩), ⟨r, 0, t, b, 0, a, d, kk, e1, e2, e3, e4, e5, e6, e7, e8, e9, by omega, e11, e12, e13, e14, e15, e16⟩, fo_id1, fo_id2, ?_⟩
      intro f_hostWidth f_hostHeight f_root f_focusedPane f_liveCount a_parent a_first a_second a_orientation a_share a_leastWidth a_leastHeight a_rectX a_rectY a_rectW a_rectH a_order a_live a_screenWidth a_screenHeight a_cursorRow a_cursorCol a_regionTop a_regionBottom a_parserMode a_paramOne a_paramTwo a_paramIndex a_cells hl s1 s2 H post KK
      exact xw_feed hg hl ev e9 (by omega) (fun _ => G21 f_hostWidth f_hostHeight f_root f_focusedPane f_liveCount a_parent a_first a_second a_orientation a_share a_leastWidth a_leastHeight a_rectX a_rectY a_rectW a_rectH a_order a_live a_screenWidth a_screenHeight a_cursorRow a_cursorCol a_regionTop a_regionBottom a_parserMode a_paramOne a_paramTwo a_paramIndex a_cells _ (br_f n10 (br_f n13 (br_t rfl ⟨v8, xw_larger ⟨v8, nm_r (e' := C) (by rw [e, e3, show la_mx 0 (nI 0 - 1) = nI 0 from by decide, ← e3, pk_uu]) KK⟩⟩)))) (fun y => by omega) (fun y => by omega)
    | succ q =>
      have e0 : la_mx 0 (nI q) = nI q := by
        have := la_mxN (a := 0) (b := q) (by omega) (by omega)
        rw [if_pos (Nat.zero_le _)] at this
        exact this
      refine ⟨R, upd C g (nI q), T, B, M, P1, P2, K, id, (fun i hi => ⟨rfl, pk_un hi, rfl, rfl, rfl, rfl, rfl, rfl⟩), ⟨r, q, t, b, 0, a, d, kk, e1, e2, pk_us, by omega, e5, e6, e7, e8, e9, by omega, e11, e12, e13, e14, e15, e16⟩, fo_id1, fo_id2, ?_⟩
      intro f_hostWidth f_hostHeight f_root f_focusedPane f_liveCount a_parent a_first a_second a_orientation a_share a_leastWidth a_leastHeight a_rectX a_rectY a_rectW a_rectH a_order a_live a_screenWidth a_screenHeight a_cursorRow a_cursorCol a_regionTop a_regionBottom a_parserMode a_paramOne a_paramTwo a_paramIndex a_cells hl s1 s2 H post KK
      exact xw_feed hg hl ev e9 (by omega) (fun _ => G21 f_hostWidth f_hostHeight f_root f_focusedPane f_liveCount a_parent a_first a_second a_orientation a_share a_leastWidth a_leastHeight a_rectX a_rectY a_rectW a_rectH a_order a_live a_screenWidth a_screenHeight a_cursorRow a_cursorCol a_regionTop a_regionBottom a_parserMode a_paramOne a_paramTwo a_paramIndex a_cells _ (br_f n10 (br_f n13 (br_t rfl ⟨v8, xw_larger ⟨v8, nm_r (e' := upd C g (nI q)) (by rw [e, e3, nI_pred, e0]) KK⟩⟩)))) (fun y => by omega) (fun y => by omega)
  have n8 : ¬ nI v = 8 := fun y => z8 ((nI_eq (b := 8) (by omega) (by omega)).mp y)
  by_cases z27 : v = 27
  · subst z27
    refine ⟨R, C, T, B, upd M g 1, P1, P2, K, id, (fun i hi => ⟨rfl, rfl, rfl, rfl, pk_un hi, rfl, rfl, rfl⟩), ⟨r, q, t, b, 1, a, d, kk, e1, e2, e3, e4, e5, e6, e7, e8, pk_us, by omega, e11, e12, e13, e14, e15, e16⟩, fo_id1, fo_id2, ?_⟩
    intro f_hostWidth f_hostHeight f_root f_focusedPane f_liveCount a_parent a_first a_second a_orientation a_share a_leastWidth a_leastHeight a_rectX a_rectY a_rectW a_rectH a_order a_live a_screenWidth a_screenHeight a_cursorRow a_cursorCol a_regionTop a_regionBottom a_parserMode a_paramOne a_paramTwo a_paramIndex a_cells hl s1 s2 H post KK
    exact xw_feed hg hl ev e9 (by omega) (fun _ => G21 f_hostWidth f_hostHeight f_root f_focusedPane f_liveCount a_parent a_first a_second a_orientation a_share a_leastWidth a_leastHeight a_rectX a_rectY a_rectW a_rectH a_order a_live a_screenWidth a_screenHeight a_cursorRow a_cursorCol a_regionTop a_regionBottom a_parserMode a_paramOne a_paramTwo a_paramIndex a_cells _ (br_f n10 (br_f n13 (br_f n8 (br_t rfl ⟨v8, nm_r (e' := upd M g 1) (by rw [e]) KK⟩))))) (fun y => by omega) (fun y => by omega)
  have n27 : ¬ nI v = 27 := fun y => z27 ((nI_eq (b := 27) (by omega) (by omega)).mp y)
  refine ⟨R, C, T, B, M, P1, P2, K, id, (fun i hi => ⟨rfl, rfl, rfl, rfl, rfl, rfl, rfl, rfl⟩), ⟨r, q, t, b, 0, a, d, kk, e1, e2, e3, e4, e5, e6, e7, e8, e9, by omega, e11, e12, e13, e14, e15, e16⟩, fo_id1, fo_id2, ?_⟩
  intro f_hostWidth f_hostHeight f_root f_focusedPane f_liveCount a_parent a_first a_second a_orientation a_share a_leastWidth a_leastHeight a_rectX a_rectY a_rectW a_rectH a_order a_live a_screenWidth a_screenHeight a_cursorRow a_cursorCol a_regionTop a_regionBottom a_parserMode a_paramOne a_paramTwo a_paramIndex a_cells hl s1 s2 H post KK
  exact xw_feed hg hl ev e9 (by omega) (fun _ => G21 f_hostWidth f_hostHeight f_root f_focusedPane f_liveCount a_parent a_first a_second a_orientation a_share a_leastWidth a_leastHeight a_rectX a_rectY a_rectW a_rectH a_order a_live a_screenWidth a_screenHeight a_cursorRow a_cursorCol a_regionTop a_regionBottom a_parserMode a_paramOne a_paramTwo a_paramIndex a_cells _ (br_f n10 (br_f n13 (br_f n8 (br_f n27 KK))))) (fun y => by omega) (fun y => by omega)
theorem fo_1 (hg : g < 8) (w4 : w ≤ 24) (h4 : h ≤ 12) (e1 : R g = nI r) (e2 : r < h) (e3 : C g = nI q) (e4 : q < w) (e5 : T g = nI t) (e6 : B g = nI b) (e7 : t ≤ b) (e8 : b < h) (e9 : M g = nI 1) (e11 : P1 g = nI a) (e12 : a ≤ 99) (e13 : P2 g = nI d) (e14 : d ≤ 99) (e15 : K g = nI kk) (e16 : kk ≤ 2) (ev : v2 &&& 255 = nI v) (hv : v < 256) : fo_C R C T B M P1 P2 K g w h v2 := by
  have v8 := vi_8 hg
  have e := cg_8 hg
  by_cases z : v = 91
  · subst z
    refine ⟨R, C, T, B, upd M g 2, upd P1 g 0, upd P2 g 0, upd K g 0, id, (fun i hi => ⟨rfl, rfl, rfl, rfl, pk_un hi, pk_un hi, pk_un hi, pk_un hi⟩), ⟨r, q, t, b, 2, 0, 0, 0, e1, e2, e3, e4, e5, e6, e7, e8, pk_us, by omega, pk_us, by omega, pk_us, by omega, pk_us, by omega⟩, fo_id1, fo_id2, ?_⟩
    intro f_hostWidth f_hostHeight f_root f_focusedPane f_liveCount a_parent a_first a_second a_orientation a_share a_leastWidth a_leastHeight a_rectX a_rectY a_rectW a_rectH a_order a_live a_screenWidth a_screenHeight a_cursorRow a_cursorCol a_regionTop a_regionBottom a_parserMode a_paramOne a_paramTwo a_paramIndex a_cells hl s1 s2 H post KK
    exact xw_feed hg hl ev e9 (by omega) (fun y => by omega) (fun _ => br_t rfl ⟨v8, nm_r (e' := upd M g 2) (by rw [e]) ⟨v8, nm_r (e' := upd P1 g 0) (by rw [e]) ⟨v8, nm_r (e' := upd P2 g 0) (by rw [e]) ⟨v8, nm_r (e' := upd K g 0) (by rw [e]) KK⟩⟩⟩⟩) (fun y => by omega)
  have n91 : ¬ nI v = 91 := fun y => z ((nI_eq (b := 91) (by omega) (by omega)).mp y)
  refine ⟨R, C, T, B, upd M g 0, P1, P2, K, id, (fun i hi => ⟨rfl, rfl, rfl, rfl, pk_un hi, rfl, rfl, rfl⟩), ⟨r, q, t, b, 0, a, d, kk, e1, e2, e3, e4, e5, e6, e7, e8, pk_us, by omega, e11, e12, e13, e14, e15, e16⟩, fo_id1, fo_id2, ?_⟩
  intro f_hostWidth f_hostHeight f_root f_focusedPane f_liveCount a_parent a_first a_second a_orientation a_share a_leastWidth a_leastHeight a_rectX a_rectY a_rectW a_rectH a_order a_live a_screenWidth a_screenHeight a_cursorRow a_cursorCol a_regionTop a_regionBottom a_parserMode a_paramOne a_paramTwo a_paramIndex a_cells hl s1 s2 H post KK
  exact xw_feed hg hl ev e9 (by omega) (fun y => by omega) (fun _ => br_f n91 ⟨v8, nm_r (e' := upd M g 0) (by rw [e]) KK⟩) (fun y => by omega)
end FO
end
section
section FP
variable {R C T B M P1 P2 K : Nat → Int32} {g w h r q t b m a d kk v : Nat} {v2 : Int32}
theorem fo_fb (hg : g < 8) (w4 : w ≤ 24) (h4 : h ≤ 12) (e1 : R g = nI r) (e2 : r < h) (e3 : C g = nI q) (e4 : q < w) (e5 : T g = nI t) (e6 : B g = nI b) (e7 : t ≤ b) (e8 : b < h) (e9 : M g = nI 2) (e11 : P1 g = nI a) (e12 : a ≤ 99) (e13 : P2 g = nI d) (e14 : d ≤ 99) (e15 : K g = nI kk) (e16 : kk ≤ 2) (ev : v2 &&& 255 = nI v) (h64 : 64 ≤ v) (h126 : v ≤ 126) : fo_C R C T B M P1 P2 K g w h v2 := by
  have v8 := vi_8 hg
  have e := cg_8 hg
  obtain ⟨n1l, n1u⟩ := fd_n1 a e12
  obtain ⟨n2l, n2u⟩ := fd_n1 d e14
  have n59 : ¬ nI v = 59 := fun y => by have := (nI_eq (a := v) (b := 59) (by omega) (by omega)).mp y; omega
  have RF : ∀ (f_hostWidth f_hostHeight f_root f_focusedPane f_liveCount : Int32) (a_parent a_first a_second a_orientation a_share a_leastWidth a_leastHeight a_rectX a_rectY a_rectW a_rectH a_order a_live a_screenWidth a_screenHeight a_cursorRow a_cursorCol a_regionTop a_regionBottom a_parserMode a_paramOne a_paramTwo a_paramIndex a_cells : Nat → Int32) (post : Int32 → St2 → Prop), a_live g ≠ 0 → wpX_runFinal (fun u => post 1 u) (f_hostWidth, f_hostHeight, f_root, f_focusedPane, f_liveCount, a_parent, a_first, a_second, a_orientation, a_share, a_leastWidth, a_leastHeight, a_rectX, a_rectY, a_rectW, a_rectH, a_order, a_live, a_screenWidth, a_screenHeight, R, C, T, B, upd M g 0, P1, P2, K, a_cells) (nI g) (nI v) → wpX_feed post (f_hostWidth, f_hostHeight, f_root, f_focusedPane, f_liveCount, a_parent, a_first, a_second, a_orientation, a_share, a_leastWidth, a_leastHeight, a_rectX, a_rectY, a_rectW, a_rectH, a_order, a_live, a_screenWidth, a_screenHeight, R, C, T, B, M, P1, P2, K, a_cells) (nI g) v2 := by
    intro f_hostWidth f_hostHeight f_root f_focusedPane f_liveCount a_parent a_first a_second a_orientation a_share a_leastWidth a_leastHeight a_rectX a_rectY a_rectW a_rectH a_order a_live a_screenWidth a_screenHeight a_cursorRow a_cursorCol a_regionTop a_regionBottom a_parserMode a_paramOne a_paramTwo a_paramIndex a_cells post hl KK
    exact xw_feed hg hl ev e9 (by omega) (fun y => by omega) (fun y => by omega) (fun _ => br_f (nI_nlt (b := 48) (by omega) (by omega)) (br_t (nI_lt (a := 57) (by omega) (by omega)) (br_f n59 ⟨v8, nm_r (e' := upd M g 0) (by rw [e]) (br_f (nI_nlt (b := 64) h64 (by omega)) (br_f (nI_nlt (a := 126) h126 (by omega)) KK))⟩)))
  by_cases z65 : v = 65
  · subst z65
    refine ⟨upd R g (nI (r - fd_n a)), C, T, B, upd M g 0, P1, P2, K, id, (fun i hi => ⟨pk_un hi, rfl, rfl, rfl, pk_un hi, rfl, rfl, rfl⟩), ⟨r - fd_n a, q, t, b, 0, a, d, kk, pk_us, by omega, e3, e4, e5, e6, e7, e8, pk_us, by omega, e11, e12, e13, e14, e15, e16⟩, fo_id1, fo_id2, ?_⟩
    intro f_hostWidth f_hostHeight f_root f_focusedPane f_liveCount a_parent a_first a_second a_orientation a_share a_leastWidth a_leastHeight a_rectX a_rectY a_rectW a_rectH a_order a_live a_screenWidth a_screenHeight a_cursorRow a_cursorCol a_regionTop a_regionBottom a_parserMode a_paramOne a_paramTwo a_paramIndex a_cells hl s1 s2 H post KK
    refine RF f_hostWidth f_hostHeight f_root f_focusedPane f_liveCount a_parent a_first a_second a_orientation a_share a_leastWidth a_leastHeight a_rectX a_rectY a_rectW a_rectH a_order a_live a_screenWidth a_screenHeight a_cursorRow a_cursorCol a_regionTop a_regionBottom a_parserMode a_paramOne a_paramTwo a_paramIndex a_cells _ hl ⟨v8, ?_⟩
    rw [e, e11, e13, e1, e3, s1, s2]
    refine xw_orOne e12 ⟨v8, xw_orOne e14 ⟨v8, nm_e ⟨v8, nm_e ⟨v8, nm_e ⟨v8, nm_e ?_⟩⟩⟩⟩⟩
    exact br_t rfl (xw_larger ⟨v8, nm_r (e' := upd R g (nI (r - fd_n a))) (by rw [la_mxs (by omega) (by omega)]) KK⟩)
  by_cases z66 : v = 66
  · subst z66
    refine ⟨upd R g (nI (if r + fd_n a ≤ h - 1 then r + fd_n a else h - 1)), C, T, B, upd M g 0, P1, P2, K, id, (fun i hi => ⟨pk_un hi, rfl, rfl, rfl, pk_un hi, rfl, rfl, rfl⟩), ⟨(if r + fd_n a ≤ h - 1 then r + fd_n a else h - 1), q, t, b, 0, a, d, kk, pk_us, by split <;> omega, e3, e4, e5, e6, e7, e8, pk_us, by omega, e11, e12, e13, e14, e15, e16⟩, fo_id1, fo_id2, ?_⟩
    intro f_hostWidth f_hostHeight f_root f_focusedPane f_liveCount a_parent a_first a_second a_orientation a_share a_leastWidth a_leastHeight a_rectX a_rectY a_rectW a_rectH a_order a_live a_screenWidth a_screenHeight a_cursorRow a_cursorCol a_regionTop a_regionBottom a_parserMode a_paramOne a_paramTwo a_paramIndex a_cells hl s1 s2 H post KK
    refine RF f_hostWidth f_hostHeight f_root f_focusedPane f_liveCount a_parent a_first a_second a_orientation a_share a_leastWidth a_leastHeight a_rectX a_rectY a_rectW a_rectH a_order a_live a_screenWidth a_screenHeight a_cursorRow a_cursorCol a_regionTop a_regionBottom a_parserMode a_paramOne a_paramTwo a_paramIndex a_cells _ hl ⟨v8, ?_⟩
    rw [e, e11, e13, e1, e3, s1, s2]
    refine xw_orOne e12 ⟨v8, xw_orOne e14 ⟨v8, nm_e ⟨v8, nm_e ⟨v8, nm_e ⟨v8, nm_e ?_⟩⟩⟩⟩⟩
    exact (br_f (by decide) (br_t rfl (xw_smaller ⟨v8, nm_r (e' := upd R g (nI (if r + fd_n a ≤ h - 1 then r + fd_n a else h - 1))) (by rw [nI_add, la_mns (by omega) (by omega) (by omega)]) KK⟩)))
  by_cases z67 : v = 67
  · subst z67
    refine ⟨R, upd C g (nI (if q + fd_n a ≤ w - 1 then q + fd_n a else w - 1)), T, B, upd M g 0, P1, P2, K, id, (fun i hi => ⟨rfl, pk_un hi, rfl, rfl, pk_un hi, rfl, rfl, rfl⟩), ⟨r, (if q + fd_n a ≤ w - 1 then q + fd_n a else w - 1), t, b, 0, a, d, kk, e1, e2, pk_us, by split <;> omega, e5, e6, e7, e8, pk_us, by omega, e11, e12, e13, e14, e15, e16⟩, fo_id1, fo_id2, ?_⟩
    intro f_hostWidth f_hostHeight f_root f_focusedPane f_liveCount a_parent a_first a_second a_orientation a_share a_leastWidth a_leastHeight a_rectX a_rectY a_rectW a_rectH a_order a_live a_screenWidth a_screenHeight a_cursorRow a_cursorCol a_regionTop a_regionBottom a_parserMode a_paramOne a_paramTwo a_paramIndex a_cells hl s1 s2 H post KK
    refine RF f_hostWidth f_hostHeight f_root f_focusedPane f_liveCount a_parent a_first a_second a_orientation a_share a_leastWidth a_leastHeight a_rectX a_rectY a_rectW a_rectH a_order a_live a_screenWidth a_screenHeight a_cursorRow a_cursorCol a_regionTop a_regionBottom a_parserMode a_paramOne a_paramTwo a_paramIndex a_cells _ hl ⟨v8, ?_⟩
    rw [e, e11, e13, e1, e3, s1, s2]
    refine xw_orOne e12 ⟨v8, xw_orOne e14 ⟨v8, nm_e ⟨v8, nm_e ⟨v8, nm_e ⟨v8, nm_e ?_⟩⟩⟩⟩⟩
    exact (br_f (by decide) (br_f (by decide) (br_t rfl (xw_smaller ⟨v8, nm_r (e' := upd C g (nI (if q + fd_n a ≤ w - 1 then q + fd_n a else w - 1))) (by rw [nI_add, la_mns (by omega) (by omega) (by omega)]) KK⟩))))
  by_cases z68 : v = 68
  · subst z68
    refine ⟨R, upd C g (nI (q - fd_n a)), T, B, upd M g 0, P1, P2, K, id, (fun i hi => ⟨rfl, pk_un hi, rfl, rfl, pk_un hi, rfl, rfl, rfl⟩), ⟨r, q - fd_n a, t, b, 0, a, d, kk, e1, e2, pk_us, by omega, e5, e6, e7, e8, pk_us, by omega, e11, e12, e13, e14, e15, e16⟩, fo_id1, fo_id2, ?_⟩
    intro f_hostWidth f_hostHeight f_root f_focusedPane f_liveCount a_parent a_first a_second a_orientation a_share a_leastWidth a_leastHeight a_rectX a_rectY a_rectW a_rectH a_order a_live a_screenWidth a_screenHeight a_cursorRow a_cursorCol a_regionTop a_regionBottom a_parserMode a_paramOne a_paramTwo a_paramIndex a_cells hl s1 s2 H post KK
    refine RF f_hostWidth f_hostHeight f_root f_focusedPane f_liveCount a_parent a_first a_second a_orientation a_share a_leastWidth a_leastHeight a_rectX a_rectY a_rectW a_rectH a_order a_live a_screenWidth a_screenHeight a_cursorRow a_cursorCol a_regionTop a_regionBottom a_parserMode a_paramOne a_paramTwo a_paramIndex a_cells _ hl ⟨v8, ?_⟩
    rw [e, e11, e13, e1, e3, s1, s2]
    refine xw_orOne e12 ⟨v8, xw_orOne e14 ⟨v8, nm_e ⟨v8, nm_e ⟨v8, nm_e ⟨v8, nm_e ?_⟩⟩⟩⟩⟩
    exact (br_f (by decide) (br_f (by decide) (br_f (by decide) (br_t rfl (xw_larger ⟨v8, nm_r (e' := upd C g (nI (q - fd_n a))) (by rw [la_mxs (by omega) (by omega)]) KK⟩)))))
  by_cases z72 : v = 72
  · subst z72
    refine ⟨upd R g (nI (if fd_n a - 1 ≤ h - 1 then fd_n a - 1 else h - 1)), upd C g (nI (if fd_n d - 1 ≤ w - 1 then fd_n d - 1 else w - 1)), T, B, upd M g 0, P1, P2, K, id, (fun i hi => ⟨pk_un hi, pk_un hi, rfl, rfl, pk_un hi, rfl, rfl, rfl⟩), ⟨(if fd_n a - 1 ≤ h - 1 then fd_n a - 1 else h - 1), (if fd_n d - 1 ≤ w - 1 then fd_n d - 1 else w - 1), t, b, 0, a, d, kk, pk_us, by split <;> omega, pk_us, by split <;> omega, e5, e6, e7, e8, pk_us, by omega, e11, e12, e13, e14, e15, e16⟩, fo_id1, fo_id2, ?_⟩
    intro f_hostWidth f_hostHeight f_root f_focusedPane f_liveCount a_parent a_first a_second a_orientation a_share a_leastWidth a_leastHeight a_rectX a_rectY a_rectW a_rectH a_order a_live a_screenWidth a_screenHeight a_cursorRow a_cursorCol a_regionTop a_regionBottom a_parserMode a_paramOne a_paramTwo a_paramIndex a_cells hl s1 s2 H post KK
    refine RF f_hostWidth f_hostHeight f_root f_focusedPane f_liveCount a_parent a_first a_second a_orientation a_share a_leastWidth a_leastHeight a_rectX a_rectY a_rectW a_rectH a_order a_live a_screenWidth a_screenHeight a_cursorRow a_cursorCol a_regionTop a_regionBottom a_parserMode a_paramOne a_paramTwo a_paramIndex a_cells _ hl ⟨v8, ?_⟩
    rw [e, e11, e13, e1, e3, s1, s2]
    refine xw_orOne e12 ⟨v8, xw_orOne e14 ⟨v8, nm_e ⟨v8, nm_e ⟨v8, nm_e ⟨v8, nm_e ?_⟩⟩⟩⟩⟩
    exact (br_f (by decide) (br_f (by decide) (br_f (by decide) (br_f (by decide) (br_t rfl (xw_smaller ⟨v8, nm_r (e' := upd R g (nI (if fd_n a - 1 ≤ h - 1 then fd_n a - 1 else h - 1))) (by rw [la_sub1 n1l, la_mns (by omega) (by omega) (by omega)]) (xw_smaller ⟨v8, nm_r (e' := upd C g (nI (if fd_n d - 1 ≤ w - 1 then fd_n d - 1 else w - 1))) (by rw [la_sub1 n2l, la_mns (by omega) (by omega) (by omega)]) KK⟩)⟩))))))
  by_cases z74 : v = 74
  · subst z74
    refine ⟨R, C, T, B, upd M g 0, P1, P2, K, (ce_w (ce_q (g * 288) 0 0 h w)), (fun i hi => ⟨rfl, rfl, rfl, rfl, pk_un hi, rfl, rfl, rfl⟩), ⟨r, q, t, b, 0, a, d, kk, e1, e2, e3, e4, e5, e6, e7, e8, pk_us, by omega, e11, e12, e13, e14, e15, e16⟩, (fun x y cr => ce_Rw cr), (fun x => ce_Ow (fun j z => by unfold ce_q at z; omega)), ?_⟩
    intro f_hostWidth f_hostHeight f_root f_focusedPane f_liveCount a_parent a_first a_second a_orientation a_share a_leastWidth a_leastHeight a_rectX a_rectY a_rectW a_rectH a_order a_live a_screenWidth a_screenHeight a_cursorRow a_cursorCol a_regionTop a_regionBottom a_parserMode a_paramOne a_paramTwo a_paramIndex a_cells hl s1 s2 H post KK
    refine RF f_hostWidth f_hostHeight f_root f_focusedPane f_liveCount a_parent a_first a_second a_orientation a_share a_leastWidth a_leastHeight a_rectX a_rectY a_rectW a_rectH a_order a_live a_screenWidth a_screenHeight a_cursorRow a_cursorCol a_regionTop a_regionBottom a_parserMode a_paramOne a_paramTwo a_paramIndex a_cells _ hl ⟨v8, ?_⟩
    rw [e, e11, e13, e1, e3, s1, s2]
    refine xw_orOne e12 ⟨v8, xw_orOne e14 ⟨v8, nm_e ⟨v8, nm_e ⟨v8, nm_e ⟨v8, nm_e ?_⟩⟩⟩⟩⟩
    exact (br_f (by decide) (br_f (by decide) (br_f (by decide) (br_f (by decide) (br_f (by decide) (br_t rfl (xw_blank (r0 := 0) (c0 := 0) (r1 := h) (c1 := w) hg (by omega) h4 w4 (by omega) KK)))))))
  by_cases z75 : v = 75
  · subst z75
    refine ⟨R, C, T, B, upd M g 0, P1, P2, K, (ce_w (ce_q (g * 288) r q (r + 1) w)), (fun i hi => ⟨rfl, rfl, rfl, rfl, pk_un hi, rfl, rfl, rfl⟩), ⟨r, q, t, b, 0, a, d, kk, e1, e2, e3, e4, e5, e6, e7, e8, pk_us, by omega, e11, e12, e13, e14, e15, e16⟩, (fun x y cr => ce_Rw cr), (fun x => ce_Ow (fun j z => by unfold ce_q at z; omega)), ?_⟩
    intro f_hostWidth f_hostHeight f_root f_focusedPane f_liveCount a_parent a_first a_second a_orientation a_share a_leastWidth a_leastHeight a_rectX a_rectY a_rectW a_rectH a_order a_live a_screenWidth a_screenHeight a_cursorRow a_cursorCol a_regionTop a_regionBottom a_parserMode a_paramOne a_paramTwo a_paramIndex a_cells hl s1 s2 H post KK
    refine RF f_hostWidth f_hostHeight f_root f_focusedPane f_liveCount a_parent a_first a_second a_orientation a_share a_leastWidth a_leastHeight a_rectX a_rectY a_rectW a_rectH a_order a_live a_screenWidth a_screenHeight a_cursorRow a_cursorCol a_regionTop a_regionBottom a_parserMode a_paramOne a_paramTwo a_paramIndex a_cells _ hl ⟨v8, ?_⟩
    rw [e, e11, e13, e1, e3, s1, s2]
    refine xw_orOne e12 ⟨v8, xw_orOne e14 ⟨v8, nm_e ⟨v8, nm_e ⟨v8, nm_e ⟨v8, nm_e ?_⟩⟩⟩⟩⟩
    refine (br_f (by decide) (br_f (by decide) (br_f (by decide) (br_f (by decide) (br_f (by decide) (br_f (by decide) (br_t rfl ?_)))))))
    rw [nI_1 r]
    exact xw_blank (r0 := r) (c0 := q) (r1 := r + 1) (c1 := w) hg (by omega) (by omega) w4 (by omega) KK
  by_cases z83 : v = 83
  · subst z83
    refine ⟨R, C, T, B, upd M g 0, P1, P2, K, (ce_n (g * 288 + t * 24) (g * 288 + b * 24) (fd_n a)), (fun i hi => ⟨rfl, rfl, rfl, rfl, pk_un hi, rfl, rfl, rfl⟩), ⟨r, q, t, b, 0, a, d, kk, e1, e2, e3, e4, e5, e6, e7, e8, pk_us, by omega, e11, e12, e13, e14, e15, e16⟩, (fun x y cr => ce_Rn (by omega) e8 (fd_n a) cr), (fun x => ce_On (by omega) (fd_n a)), ?_⟩
    intro f_hostWidth f_hostHeight f_root f_focusedPane f_liveCount a_parent a_first a_second a_orientation a_share a_leastWidth a_leastHeight a_rectX a_rectY a_rectW a_rectH a_order a_live a_screenWidth a_screenHeight a_cursorRow a_cursorCol a_regionTop a_regionBottom a_parserMode a_paramOne a_paramTwo a_paramIndex a_cells hl s1 s2 H post KK
    refine RF f_hostWidth f_hostHeight f_root f_focusedPane f_liveCount a_parent a_first a_second a_orientation a_share a_leastWidth a_leastHeight a_rectX a_rectY a_rectW a_rectH a_order a_live a_screenWidth a_screenHeight a_cursorRow a_cursorCol a_regionTop a_regionBottom a_parserMode a_paramOne a_paramTwo a_paramIndex a_cells _ hl ⟨v8, ?_⟩
    rw [e, e11, e13, e1, e3, s1, s2]
    refine xw_orOne e12 ⟨v8, xw_orOne e14 ⟨v8, nm_e ⟨v8, nm_e ⟨v8, nm_e ⟨v8, nm_e ?_⟩⟩⟩⟩⟩
    exact (br_f (by decide) (br_f (by decide) (br_f (by decide) (br_f (by decide) (br_f (by decide) (br_f (by decide) (br_f (by decide) (br_t rfl (xw_scroll (m := fd_n a) hg e5 e6 e7 (by omega) (by omega) H KK)))))))))
  by_cases z114 : v = 114
  · subst z114
    have zb : fd_z d h ≤ h ∧ 1 ≤ fd_z d h := by unfold fd_z; (repeat' split) <;> omega
    by_cases y : fd_z d h ≤ fd_n a
    · refine ⟨R, C, T, B, upd M g 0, P1, P2, K, id, (fun i hi => ⟨rfl, rfl, rfl, rfl, pk_un hi, rfl, rfl, rfl⟩), ⟨r, q, t, b, 0, a, d, kk, e1, e2, e3, e4, e5, e6, e7, e8, pk_us, by omega, e11, e12, e13, e14, e15, e16⟩, fo_id1, fo_id2, ?_⟩
      intro f_hostWidth f_hostHeight f_root f_focusedPane f_liveCount a_parent a_first a_second a_orientation a_share a_leastWidth a_leastHeight a_rectX a_rectY a_rectW a_rectH a_order a_live a_screenWidth a_screenHeight a_cursorRow a_cursorCol a_regionTop a_regionBottom a_parserMode a_paramOne a_paramTwo a_paramIndex a_cells hl s1 s2 H post KK
      refine RF f_hostWidth f_hostHeight f_root f_focusedPane f_liveCount a_parent a_first a_second a_orientation a_share a_leastWidth a_leastHeight a_rectX a_rectY a_rectW a_rectH a_order a_live a_screenWidth a_screenHeight a_cursorRow a_cursorCol a_regionTop a_regionBottom a_parserMode a_paramOne a_paramTwo a_paramIndex a_cells _ hl ⟨v8, ?_⟩
      rw [e, e11, e13, e1, e3, s1, s2]
      refine xw_orOne e12 ⟨v8, xw_orOne e14 ⟨v8, nm_e ⟨v8, nm_e ⟨v8, nm_e ⟨v8, nm_e ?_⟩⟩⟩⟩⟩
      exact (br_f (by decide) (br_f (by decide) (br_f (by decide) (br_f (by decide) (br_f (by decide) (br_f (by decide) (br_f (by decide) (br_f (by decide) (br_t rfl (xw_reg hg s2 e13 e14 (by omega) h4 n1l n1u (fun _ => KK) (fun x => by omega)))))))))))
    · refine ⟨upd R g 0, upd C g 0, upd T g (nI (fd_n a - 1)), upd B g (nI (fd_z d h - 1)), upd M g 0, P1, P2, K, id, (fun i hi => ⟨pk_un hi, pk_un hi, pk_un hi, pk_un hi, pk_un hi, rfl, rfl, rfl⟩), ⟨0, 0, fd_n a - 1, fd_z d h - 1, 0, a, d, kk, pk_us, by omega, pk_us, by omega, pk_us, pk_us, by omega, by omega, pk_us, by omega, e11, e12, e13, e14, e15, e16⟩, fo_id1, fo_id2, ?_⟩
      intro f_hostWidth f_hostHeight f_root f_focusedPane f_liveCount a_parent a_first a_second a_orientation a_share a_leastWidth a_leastHeight a_rectX a_rectY a_rectW a_rectH a_order a_live a_screenWidth a_screenHeight a_cursorRow a_cursorCol a_regionTop a_regionBottom a_parserMode a_paramOne a_paramTwo a_paramIndex a_cells hl s1 s2 H post KK
      refine RF f_hostWidth f_hostHeight f_root f_focusedPane f_liveCount a_parent a_first a_second a_orientation a_share a_leastWidth a_leastHeight a_rectX a_rectY a_rectW a_rectH a_order a_live a_screenWidth a_screenHeight a_cursorRow a_cursorCol a_regionTop a_regionBottom a_parserMode a_paramOne a_paramTwo a_paramIndex a_cells _ hl ⟨v8, ?_⟩
      rw [e, e11, e13, e1, e3, s1, s2]
      refine xw_orOne e12 ⟨v8, xw_orOne e14 ⟨v8, nm_e ⟨v8, nm_e ⟨v8, nm_e ⟨v8, nm_e ?_⟩⟩⟩⟩⟩
      exact (br_f (by decide) (br_f (by decide) (br_f (by decide) (br_f (by decide) (br_f (by decide) (br_f (by decide) (br_f (by decide) (br_f (by decide) (br_t rfl (xw_reg hg s2 e13 e14 (by omega) h4 n1l n1u (fun x => by omega) (fun _ => KK)))))))))))
  have y65 : ¬ nI v = 65 := fun y => z65 ((nI_eq (b := 65) (by omega) (by omega)).mp y)
  have y66 : ¬ nI v = 66 := fun y => z66 ((nI_eq (b := 66) (by omega) (by omega)).mp y)
  have y67 : ¬ nI v = 67 := fun y => z67 ((nI_eq (b := 67) (by omega) (by omega)).mp y)
  have y68 : ¬ nI v = 68 := fun y => z68 ((nI_eq (b := 68) (by omega) (by omega)).mp y)
  have y72 : ¬ nI v = 72 := fun y => z72 ((nI_eq (b := 72) (by omega) (by omega)).mp y)
  have y74 : ¬ nI v = 74 := fun y => z74 ((nI_eq (b := 74) (by omega) (by omega)).mp y)
  have y75 : ¬ nI v = 75 := fun y => z75 ((nI_eq (b := 75) (by omega) (by omega)).mp y)
  have y83 : ¬ nI v = 83 := fun y => z83 ((nI_eq (b := 83) (by omega) (by omega)).mp y)
  have y114 : ¬ nI v = 114 := fun y => z114 ((nI_eq (b := 114) (by omega) (by omega)).mp y)
  refine ⟨R, C, T, B, upd M g 0, P1, P2, K, id, (fun i hi => ⟨rfl, rfl, rfl, rfl, pk_un hi, rfl, rfl, rfl⟩), ⟨r, q, t, b, 0, a, d, kk, e1, e2, e3, e4, e5, e6, e7, e8, pk_us, by omega, e11, e12, e13, e14, e15, e16⟩, fo_id1, fo_id2, ?_⟩
  intro f_hostWidth f_hostHeight f_root f_focusedPane f_liveCount a_parent a_first a_second a_orientation a_share a_leastWidth a_leastHeight a_rectX a_rectY a_rectW a_rectH a_order a_live a_screenWidth a_screenHeight a_cursorRow a_cursorCol a_regionTop a_regionBottom a_parserMode a_paramOne a_paramTwo a_paramIndex a_cells hl s1 s2 H post KK
  refine RF f_hostWidth f_hostHeight f_root f_focusedPane f_liveCount a_parent a_first a_second a_orientation a_share a_leastWidth a_leastHeight a_rectX a_rectY a_rectW a_rectH a_order a_live a_screenWidth a_screenHeight a_cursorRow a_cursorCol a_regionTop a_regionBottom a_parserMode a_paramOne a_paramTwo a_paramIndex a_cells _ hl ⟨v8, ?_⟩
  rw [e, e11, e13, e1, e3, s1, s2]
  refine xw_orOne e12 ⟨v8, xw_orOne e14 ⟨v8, nm_e ⟨v8, nm_e ⟨v8, nm_e ⟨v8, nm_e ?_⟩⟩⟩⟩⟩
  exact (br_f y65 (br_f y66 (br_f y67 (br_f y68 (br_f y72 (br_f y74 (br_f y75 (br_f y83 (br_f y114 KK)))))))))
theorem fo_2 (hg : g < 8) (w4 : w ≤ 24) (h4 : h ≤ 12) (e1 : R g = nI r) (e2 : r < h) (e3 : C g = nI q) (e4 : q < w) (e5 : T g = nI t) (e6 : B g = nI b) (e7 : t ≤ b) (e8 : b < h) (e9 : M g = nI 2) (e11 : P1 g = nI a) (e12 : a ≤ 99) (e13 : P2 g = nI d) (e14 : d ≤ 99) (e15 : K g = nI kk) (e16 : kk ≤ 2) (ev : v2 &&& 255 = nI v) (hv : v < 256) : fo_C R C T B M P1 P2 K g w h v2 := by
  have v8 := vi_8 hg
  have e := cg_8 hg
  have m99 : ∀ x, x < 2000 → la_mn 99 (nI x) = nI (if x ≤ 99 then x else 99) := fun x hx => la_mnN (a := 99) (by omega) (by omega)
  by_cases hd : 48 ≤ v ∧ v ≤ 57
  · obtain ⟨d1, d2⟩ := hd
    have e48 : nI v - 48 = nI (v - 48) := pk_sub (b := 48) d1
    have AD : ∀ (f_hostWidth f_hostHeight f_root f_focusedPane f_liveCount : Int32) (a_parent a_first a_second a_orientation a_share a_leastWidth a_leastHeight a_rectX a_rectY a_rectW a_rectH a_order a_live a_screenWidth a_screenHeight a_cursorRow a_cursorCol a_regionTop a_regionBottom a_parserMode a_paramOne a_paramTwo a_paramIndex a_cells : Nat → Int32) (post : Int32 → St2 → Prop), a_live g ≠ 0 → wpX_addDigit (fun u => post 1 u) (f_hostWidth, f_hostHeight, f_root, f_focusedPane, f_liveCount, a_parent, a_first, a_second, a_orientation, a_share, a_leastWidth, a_leastHeight, a_rectX, a_rectY, a_rectW, a_rectH, a_order, a_live, a_screenWidth, a_screenHeight, R, C, T, B, M, P1, P2, K, a_cells) (nI g) (nI (v - 48)) → wpX_feed post (f_hostWidth, f_hostHeight, f_root, f_focusedPane, f_liveCount, a_parent, a_first, a_second, a_orientation, a_share, a_leastWidth, a_leastHeight, a_rectX, a_rectY, a_rectW, a_rectH, a_order, a_live, a_screenWidth, a_screenHeight, R, C, T, B, M, P1, P2, K, a_cells) (nI g) v2 := by
      intro f_hostWidth f_hostHeight f_root f_focusedPane f_liveCount a_parent a_first a_second a_orientation a_share a_leastWidth a_leastHeight a_rectX a_rectY a_rectW a_rectH a_order a_live a_screenWidth a_screenHeight a_cursorRow a_cursorCol a_regionTop a_regionBottom a_parserMode a_paramOne a_paramTwo a_paramIndex a_cells post hl KK
      refine xw_feed hg hl ev e9 (by omega) (fun y => by omega) (fun y => by omega) (fun _ => br_f (nI_nlt (b := 48) d1 (by omega)) (br_f (nI_nlt (a := 57) d2 (by omega)) ?_))
      rw [e48]
      exact KK
    by_cases k0 : kk = 0
    · refine ⟨R, C, T, B, M, upd P1 g (la_mn 99 (nI (a * 10 + (v - 48)))), P2, K, id, (fun i hi => ⟨rfl, rfl, rfl, rfl, rfl, pk_un hi, rfl, rfl⟩), ⟨r, q, t, b, 2, _, d, kk, e1, e2, e3, e4, e5, e6, e7, e8, e9, by omega, pk_us.trans (m99 _ (by omega)), by split <;> omega, e13, e14, e15, e16⟩, fo_id1, fo_id2, ?_⟩
      intro f_hostWidth f_hostHeight f_root f_focusedPane f_liveCount a_parent a_first a_second a_orientation a_share a_leastWidth a_leastHeight a_rectX a_rectY a_rectW a_rectH a_order a_live a_screenWidth a_screenHeight a_cursorRow a_cursorCol a_regionTop a_regionBottom a_parserMode a_paramOne a_paramTwo a_paramIndex a_cells hl s1 s2 H post KK
      refine AD f_hostWidth f_hostHeight f_root f_focusedPane f_liveCount a_parent a_first a_second a_orientation a_share a_leastWidth a_leastHeight a_rectX a_rectY a_rectW a_rectH a_order a_live a_screenWidth a_screenHeight a_cursorRow a_cursorCol a_regionTop a_regionBottom a_parserMode a_paramOne a_paramTwo a_paramIndex a_cells _ hl ⟨v8, ?_⟩
      rw [e, e15, e11, e13, show (10 : Int32) = nI 10 from rfl, pk_mul, pk_mul, nI_add, nI_add]
      exact pk_eq kk 0 (fun _ => ⟨v8, xw_smaller ⟨v8, nm_e KK⟩⟩) (fun y => absurd k0 y)
    · by_cases k1 : kk = 1
      · refine ⟨R, C, T, B, M, P1, upd P2 g (la_mn 99 (nI (d * 10 + (v - 48)))), K, id, (fun i hi => ⟨rfl, rfl, rfl, rfl, rfl, rfl, pk_un hi, rfl⟩), ⟨r, q, t, b, 2, a, _, kk, e1, e2, e3, e4, e5, e6, e7, e8, e9, by omega, e11, e12, pk_us.trans (m99 _ (by omega)), by split <;> omega, e15, e16⟩, fo_id1, fo_id2, ?_⟩
        intro f_hostWidth f_hostHeight f_root f_focusedPane f_liveCount a_parent a_first a_second a_orientation a_share a_leastWidth a_leastHeight a_rectX a_rectY a_rectW a_rectH a_order a_live a_screenWidth a_screenHeight a_cursorRow a_cursorCol a_regionTop a_regionBottom a_parserMode a_paramOne a_paramTwo a_paramIndex a_cells hl s1 s2 H post KK
        refine AD f_hostWidth f_hostHeight f_root f_focusedPane f_liveCount a_parent a_first a_second a_orientation a_share a_leastWidth a_leastHeight a_rectX a_rectY a_rectW a_rectH a_order a_live a_screenWidth a_screenHeight a_cursorRow a_cursorCol a_regionTop a_regionBottom a_parserMode a_paramOne a_paramTwo a_paramIndex a_cells _ hl ⟨v8, ?_⟩
        rw [e, e15, e11, e13, show (10 : Int32) = nI 10 from rfl, pk_mul, pk_mul, nI_add, nI_add]
        exact pk_eq kk 0 (fun y => absurd y k0) (fun _ => ⟨v8, pk_eq kk 1 (fun _ => ⟨v8, xw_smaller ⟨v8, nm_e KK⟩⟩) (fun y => absurd k1 y)⟩)
      · refine ⟨R, C, T, B, M, P1, P2, K, id, (fun i hi => ⟨rfl, rfl, rfl, rfl, rfl, rfl, rfl, rfl⟩), ⟨r, q, t, b, 2, a, d, kk, e1, e2, e3, e4, e5, e6, e7, e8, e9, by omega, e11, e12, e13, e14, e15, e16⟩, fo_id1, fo_id2, ?_⟩
        intro f_hostWidth f_hostHeight f_root f_focusedPane f_liveCount a_parent a_first a_second a_orientation a_share a_leastWidth a_leastHeight a_rectX a_rectY a_rectW a_rectH a_order a_live a_screenWidth a_screenHeight a_cursorRow a_cursorCol a_regionTop a_regionBottom a_parserMode a_paramOne a_paramTwo a_paramIndex a_cells hl s1 s2 H post KK
        refine AD f_hostWidth f_hostHeight f_root f_focusedPane f_liveCount a_parent a_first a_second a_orientation a_share a_leastWidth a_leastHeight a_rectX a_rectY a_rectW a_rectH a_order a_live a_screenWidth a_screenHeight a_cursorRow a_cursorCol a_regionTop a_regionBottom a_parserMode a_paramOne a_paramTwo a_paramIndex a_cells _ hl ⟨v8, ?_⟩
        rw [e, e15]
        exact pk_eq kk 0 (fun y => absurd y k0) (fun _ => ⟨v8, pk_eq kk 1 (fun y => absurd y k1) (fun _ => KK)⟩)
  have hc : v < 48 ∨ 57 < v := by omega
  have SQ : ∀ (f_hostWidth f_hostHeight f_root f_focusedPane f_liveCount : Int32) (a_parent a_first a_second a_orientation a_share a_leastWidth a_leastHeight a_rectX a_rectY a_rectW a_rectH a_order a_live a_screenWidth a_screenHeight a_cursorRow a_cursorCol a_regionTop a_regionBottom a_parserMode a_paramOne a_paramTwo a_paramIndex a_cells : Nat → Int32) (post : Int32 → St2 → Prop), a_live g ≠ 0 → wX_feedSequence_24 (fun u => post 1 u) (nI g) (nI v) f_hostWidth f_hostHeight f_root f_focusedPane f_liveCount a_parent a_first a_second a_orientation a_share a_leastWidth a_leastHeight a_rectX a_rectY a_rectW a_rectH a_order a_live a_screenWidth a_screenHeight R C T B M P1 P2 K a_cells → wpX_feed post (f_hostWidth, f_hostHeight, f_root, f_focusedPane, f_liveCount, a_parent, a_first, a_second, a_orientation, a_share, a_leastWidth, a_leastHeight, a_rectX, a_rectY, a_rectW, a_rectH, a_order, a_live, a_screenWidth, a_screenHeight, R, C, T, B, M, P1, P2, K, a_cells) (nI g) v2 := by
    intro f_hostWidth f_hostHeight f_root f_focusedPane f_liveCount a_parent a_first a_second a_orientation a_share a_leastWidth a_leastHeight a_rectX a_rectY a_rectW a_rectH a_order a_live a_screenWidth a_screenHeight a_cursorRow a_cursorCol a_regionTop a_regionBottom a_parserMode a_paramOne a_paramTwo a_paramIndex a_cells post hl KK
    refine xw_feed hg hl ev e9 (by omega) (fun y => by omega) (fun y => by omega) (fun _ => ?_)
    by_cases z : v < 48
    · exact br_t (nI_lt (b := 48) z (by omega)) KK
    · exact br_f (nI_nlt (b := 48) (by omega) (by omega)) (br_t (nI_lt (a := 57) (by omega) (by omega)) KK)
  by_cases z59 : v = 59
  · subst z59
    by_cases k2 : 2 ≤ kk
    · have k22 : kk = 2 := by omega
      subst k22
      refine ⟨R, C, T, B, M, P1, P2, K, id, (fun i hi => ⟨rfl, rfl, rfl, rfl, rfl, rfl, rfl, rfl⟩), ⟨r, q, t, b, 2, a, d, 2, e1, e2, e3, e4, e5, e6, e7, e8, e9, by omega, e11, e12, e13, e14, e15, e16⟩, fo_id1, fo_id2, ?_⟩
      intro f_hostWidth f_hostHeight f_root f_focusedPane f_liveCount a_parent a_first a_second a_orientation a_share a_leastWidth a_leastHeight a_rectX a_rectY a_rectW a_rectH a_order a_live a_screenWidth a_screenHeight a_cursorRow a_cursorCol a_regionTop a_regionBottom a_parserMode a_paramOne a_paramTwo a_paramIndex a_cells hl s1 s2 H post KK
      exact SQ f_hostWidth f_hostHeight f_root f_focusedPane f_liveCount a_parent a_first a_second a_orientation a_share a_leastWidth a_leastHeight a_rectX a_rectY a_rectW a_rectH a_order a_live a_screenWidth a_screenHeight a_cursorRow a_cursorCol a_regionTop a_regionBottom a_parserMode a_paramOne a_paramTwo a_paramIndex a_cells _ hl (br_t rfl ⟨v8, xw_smaller ⟨v8, nm_r (e' := K) (by rw [e, e15, show la_mn 2 (nI 2 + 1) = nI 2 from by decide, ← e15, pk_uu]) KK⟩⟩)
    · have e0 : la_mn 2 (nI (kk + 1)) = nI (kk + 1) := by
        have := la_mnN (a := 2) (b := kk + 1) (by omega) (by omega)
        rw [if_pos (by omega)] at this
        exact this
      refine ⟨R, C, T, B, M, P1, P2, upd K g (nI (kk + 1)), id, (fun i hi => ⟨rfl, rfl, rfl, rfl, rfl, rfl, rfl, pk_un hi⟩), ⟨r, q, t, b, 2, a, d, kk + 1, e1, e2, e3, e4, e5, e6, e7, e8, e9, by omega, e11, e12, e13, e14, pk_us, by omega⟩, fo_id1, fo_id2, ?_⟩
      intro f_hostWidth f_hostHeight f_root f_focusedPane f_liveCount a_parent a_first a_second a_orientation a_share a_leastWidth a_leastHeight a_rectX a_rectY a_rectW a_rectH a_order a_live a_screenWidth a_screenHeight a_cursorRow a_cursorCol a_regionTop a_regionBottom a_parserMode a_paramOne a_paramTwo a_paramIndex a_cells hl s1 s2 H post KK
      exact SQ f_hostWidth f_hostHeight f_root f_focusedPane f_liveCount a_parent a_first a_second a_orientation a_share a_leastWidth a_leastHeight a_rectX a_rectY a_rectW a_rectH a_order a_live a_screenWidth a_screenHeight a_cursorRow a_cursorCol a_regionTop a_regionBottom a_parserMode a_paramOne a_paramTwo a_paramIndex a_cells _ hl (br_t rfl ⟨v8, xw_smaller ⟨v8, nm_r (e' := upd K g (nI (kk + 1))) (by rw [e, e15, nI_1, e0]) KK⟩⟩)
  have n59 : ¬ nI v = 59 := fun y => z59 ((nI_eq (b := 59) (by omega) (by omega)).mp y)
  by_cases h64 : 64 ≤ v ∧ v ≤ 126
  · exact fo_fb hg w4 h4 e1 e2 e3 e4 e5 e6 e7 e8 e9 e11 e12 e13 e14 e15 e16 ev h64.1 h64.2
  · refine ⟨R, C, T, B, upd M g 0, P1, P2, K, id, (fun i hi => ⟨rfl, rfl, rfl, rfl, pk_un hi, rfl, rfl, rfl⟩), ⟨r, q, t, b, 0, a, d, kk, e1, e2, e3, e4, e5, e6, e7, e8, pk_us, by omega, e11, e12, e13, e14, e15, e16⟩, fo_id1, fo_id2, ?_⟩
    intro f_hostWidth f_hostHeight f_root f_focusedPane f_liveCount a_parent a_first a_second a_orientation a_share a_leastWidth a_leastHeight a_rectX a_rectY a_rectW a_rectH a_order a_live a_screenWidth a_screenHeight a_cursorRow a_cursorCol a_regionTop a_regionBottom a_parserMode a_paramOne a_paramTwo a_paramIndex a_cells hl s1 s2 H post KK
    refine SQ f_hostWidth f_hostHeight f_root f_focusedPane f_liveCount a_parent a_first a_second a_orientation a_share a_leastWidth a_leastHeight a_rectX a_rectY a_rectW a_rectH a_order a_live a_screenWidth a_screenHeight a_cursorRow a_cursorCol a_regionTop a_regionBottom a_parserMode a_paramOne a_paramTwo a_paramIndex a_cells _ hl (br_f n59 ⟨v8, nm_r (e' := upd M g 0) (by rw [e]) ?_⟩)
    by_cases y : v < 64
    · exact br_t (nI_lt (b := 64) y (by omega)) KK
    · exact br_f (nI_nlt (b := 64) (by omega) (by omega)) (br_t (nI_lt (a := 126) (by omega) (by omega)) KK)
end FP
/-- feeding a live pane -/
theorem fo_all {R C T B M P1 P2 K : Nat → Int32} {g w h : Nat} (hg : g < 8) (w4 : w ≤ 24) (h4 : h ≤ 12) (q : rl_q w h R C T B M P1 P2 K g) (v2 : Int32) : fo_C R C T B M P1 P2 K g w h v2 := by
  obtain ⟨r, q, t, b, m, a, d, kk, e1, e2, e3, e4, e5, e6, e7, e8, e9, e10, e11, e12, e13, e14, e15, e16⟩ := q
  obtain ⟨v, hv, ev⟩ := pk_andE v2 (m := 255) 8 (by decide)
  have hv : v < 256 := hv
  by_cases m0 : m = 0
  · subst m0
    by_cases c1 : v < 32 ∨ 126 < v
    · exact fo_ct hg w4 h4 e1 e2 e3 e4 e5 e6 e7 e8 e9 e11 e12 e13 e14 e15 e16 ev hv c1
    · exact fo_pr hg w4 h4 e1 e2 e3 e4 e5 e6 e7 e8 e9 e11 e12 e13 e14 e15 e16 ev (by omega) (by omega)
  · by_cases m1 : m = 1
    · subst m1
      exact fo_1 hg w4 h4 e1 e2 e3 e4 e5 e6 e7 e8 e9 e11 e12 e13 e14 e15 e16 ev hv
    · have m2 : m = 2 := by omega
      subst m2
      exact fo_2 hg w4 h4 e1 e2 e3 e4 e5 e6 e7 e8 e9 e11 e12 e13 e14 e15 e16 ev hv
end
section
def sm_f (f : Nat → Nat) : Nat → Nat
  | 0 => 0
  | n + 1 => sm_f f n + f n
theorem sm_s (f : Nat → Nat) (n : Nat) : sm_f f (n + 1) = sm_f f n + f n := rfl
theorem sm_c {f g : Nat → Nat} : ∀ {n : Nat}, (∀ i, i < n → f i = g i) → sm_f f n = sm_f g n
  | 0, _ => rfl
  | n + 1, h => by rw [sm_s, sm_s, sm_c (fun i hi => h i (by omega)), h n (by omega)]
theorem sm_a (f g : Nat → Nat) : ∀ n, sm_f (fun i => f i + g i) n = sm_f f n + sm_f g n
  | 0 => rfl
  | n + 1 => by rw [sm_s, sm_s, sm_s, sm_a f g n]; omega
theorem sm_k (k : Nat) : ∀ n, sm_f (fun _ => k) n = n * k
  | 0 => by rw [Nat.zero_mul]; rfl
  | n + 1 => by rw [sm_s, sm_k k n, Nat.succ_mul]
theorem sm_sw (f : Nat → Nat → Nat) (m : Nat) : ∀ n, sm_f (fun i => sm_f (fun j => f i j) m) n = sm_f (fun j => sm_f (fun i => f i j) n) m
  | 0 => by
    have : sm_f (fun j => sm_f (fun i => f i j) 0) m = sm_f (fun _ => 0) m := sm_c (fun _ _ => rfl)
    rw [this, sm_k, Nat.mul_zero]
    rfl
  | n + 1 => by
    rw [sm_s, sm_sw f m n, ← sm_a]
    exact sm_c (fun j _ => (sm_s (fun i => f i j) n).symm)
/-- w of the places carry k -/
theorem sm_iv {x w k : Nat} : ∀ {n : Nat}, sm_f (fun j => if x ≤ j ∧ j < x + w then k else 0) n = (if n ≤ x then 0 else if x + w ≤ n then w * k else (n - x) * k)
  | 0 => by rw [if_pos (Nat.zero_le _)]; rfl
  | n + 1 => by
    rw [sm_s, sm_iv]
    by_cases h1 : n + 1 ≤ x
    · rw [if_pos h1, if_pos (by omega), if_neg (by omega)]
    · rw [if_neg h1]
      by_cases h2 : x + w ≤ n
      · rw [if_pos (show x + w ≤ n + 1 by omega), if_neg (show ¬ (x ≤ n ∧ n < x + w) by omega)]
        by_cases h3 : n ≤ x
        · rw [if_pos h3]
          have : w = 0 := by omega
          rw [this, Nat.zero_mul]
        · rw [if_neg h3, if_pos h2]
          omega
      · rw [if_pos (show x ≤ n ∧ n < x + w by omega)]
        by_cases h3 : n ≤ x
        · rw [if_pos h3]
          have e : n = x := by omega
          by_cases h4 : x + w ≤ n + 1
          · rw [if_pos h4]
            have : w = 1 := by omega
            rw [this]
            omega
          · rw [if_neg h4, show n + 1 - x = 1 by omega]
            omega
        · rw [if_neg h3, if_neg h2]
          by_cases h4 : x + w ≤ n + 1
          · rw [if_pos h4, show w = n - x + 1 by omega, Nat.succ_mul]
          · rw [if_neg h4, show n + 1 - x = n - x + 1 by omega, Nat.succ_mul]
theorem sm_rect {x y w h W H : Nat} (h1 : x + w ≤ W) (h2 : y + h ≤ H) : sm_f (fun r => sm_f (fun s => if (y ≤ r ∧ r < y + h) ∧ (x ≤ s ∧ s < x + w) then 1 else 0) W) H = w * h := by
  have e : ∀ r, r < H → sm_f (fun s => if (y ≤ r ∧ r < y + h) ∧ (x ≤ s ∧ s < x + w) then 1 else 0) W = if y ≤ r ∧ r < y + h then w else 0 := by
    intro r _
    by_cases z : y ≤ r ∧ r < y + h
    · rw [if_pos z]
      have : sm_f (fun s => if (y ≤ r ∧ r < y + h) ∧ (x ≤ s ∧ s < x + w) then 1 else 0) W = sm_f (fun j => if x ≤ j ∧ j < x + w then 1 else 0) W := sm_c (fun s _ => by
        by_cases q : x ≤ s ∧ s < x + w
        · rw [if_pos ⟨z, q⟩, if_pos q]
        · rw [if_neg (fun c => q c.2), if_neg q])
      rw [this, sm_iv]
      by_cases q : W ≤ x
      · rw [if_pos q]; omega
      · rw [if_neg q, if_pos h1, Nat.mul_one]
    · rw [if_neg z]
      have : sm_f (fun s => if (y ≤ r ∧ r < y + h) ∧ (x ≤ s ∧ s < x + w) then 1 else 0) W = sm_f (fun _ => 0) W := sm_c (fun s _ => by rw [if_neg (fun c => z c.1)])
      rw [this, sm_k, Nat.mul_zero]
  rw [sm_c e, sm_iv]
  by_cases q : H ≤ y
  · rw [if_pos q]
    have : h = 0 := by omega
    rw [this, Nat.mul_zero]
  · rw [if_neg q, if_pos h2, Nat.mul_comm]
/-- at most one place carries 1 -/
theorem sm_one {f : Nat → Nat} : ∀ {n : Nat}, (∀ i, i < n → f i = 0 ∨ f i = 1) → (∀ i j, i < n → j < n → f i = 1 → f j = 1 → i = j) → (sm_f f n = 0 ∧ ∀ i, i < n → f i = 0) ∨ (sm_f f n = 1 ∧ ∃ i, i < n ∧ f i = 1)
  | 0, _, _ => Or.inl ⟨rfl, fun i hi => by omega⟩
  | n + 1, h, u => by
    rcases sm_one (n := n) (fun i hi => h i (by omega)) (fun i j hi hj => u i j (by omega) (by omega)) with ⟨a, b⟩ | ⟨a, i, hi, b⟩
    · rcases h n (by omega) with z | z
      · refine Or.inl ⟨by rw [sm_s, a, z], fun i hi => ?_⟩
        by_cases e : i = n
        · rw [e]; exact z
        · exact b i (by omega)
      · exact Or.inr ⟨by rw [sm_s, a, z], n, by omega, z⟩
    · rcases h n (by omega) with z | z
      · exact Or.inr ⟨by rw [sm_s, a, z], i, by omega, b⟩
      · have := u i n (by omega) (by omega) b z
        omega
/-- two leaves hold no cell together -/
theorem ge_two {c : Nat} {kd : Nat → Int32} {en X Y W H : Nat → Nat} (P : ps_P c kd en) (G : ge_G c kd en X Y W H) {r q : Nat} : ∀ i, i < c → ∀ j k, i ≤ j → j < en i → i ≤ k → k < en i → kd j = 0 → kd k = 0 → ge_in X Y W H r q j → ge_in X Y W H r q k → j = k := by
  apply ps_up P (Q := fun i => ∀ j k, i ≤ j → j < en i → i ≤ k → k < en i → kd j = 0 → kd k = 0 → ge_in X Y W H r q j → ge_in X Y W H r q k → j = k)
  · intro i hi hk j k h1 h2 h3 h4 _ _ _ _
    have e := ps_lf P hi hk
    omega
  · intro i hi hk q1 q2 j k h1 h2 h3 h4 kj kk ij ik
    obtain ⟨a1, a2, a3, a4, a5, a6⟩ := ps_nd P hi hk
    have g := ge_ch G (r := r) (q := q) hi hk
    have up1 := fun z h h' => ge_in_up P G (r := r) (q := q) (i + 1) a5 z h h'
    have up2 := fun z h h' => ge_in_up P G (r := r) (q := q) (en (i + 1)) a6 z h h'
    have j0 : j ≠ i := fun e => hk (by rw [← e]; exact kj)
    have k0 : k ≠ i := fun e => hk (by rw [← e]; exact kk)
    by_cases j1 : j < en (i + 1) <;> by_cases k1 : k < en (i + 1)
    · exact q1 j k (by omega) j1 (by omega) k1 kj kk ij ik
    · exact absurd (up2 k (by omega) (by omega) ik) (g.1 (up1 j (by omega) j1 ij)).2.1
    · exact absurd (up2 j (by omega) (by omega) ij) (g.1 (up1 k (by omega) k1 ik)).2.1
    · exact q2 j k (by omega) (by omega) (by omega) (by omega) kj kk ij ik
end
section
def vw_n (A : Nat → Int32) : Nat → Nat := fun g => (A g).toNatClampNeg
/-- the cell (r, s) lies in pane g -/
def vw_in (rx ry rw rh : Nat → Int32) (g r s : Nat) : Prop := (vw_n ry g ≤ r ∧ r < vw_n ry g + vw_n rh g) ∧ (vw_n rx g ≤ s ∧ s < vw_n rx g + vw_n rw g)
theorem vw_e {A : Nat → Int32} {g n : Nat} (h : A g = nI n) (hn : n < 2 ^ 31) : vw_n A g = n := by
  unfold vw_n
  rw [h, nI_clamp hn]
theorem vw_sz {c : Nat} {nd en po : Nat → Nat} {w0 h0 : Nat} {root : Int32} {pa fi se ori sh lw lh rx ry rw rh kd vl lv : Nat → Int32} (G : rl_G c nd en po w0 h0 root pa fi se ori sh lw lh rx ry rw rh kd vl lv) {g : Nat} (hg : g < 8) (hl : lv g ≠ 0) :
    rx g = nI (vw_n rx g) ∧ ry g = nI (vw_n ry g) ∧ rw g = nI (vw_n rw g) ∧ rh g = nI (vw_n rh g) ∧ 1 ≤ vw_n rw g ∧ 1 ≤ vw_n rh g ∧ vw_n rx g + vw_n rw g ≤ w0 ∧ vw_n ry g + vw_n rh g ≤ h0 ∧ w0 ≤ 24 ∧ h0 ≤ 12 := by
  obtain ⟨x, y, w, h, s1, s2, s3, s4, s5, s6, s7, s8, s9, s10⟩ := rl_sz G hg hl
  have b1 := G.2.2.2.2.1
  have b2 := G.2.2.2.2.2.2.1
  rw [vw_e s1 (by omega), vw_e s2 (by omega), vw_e s3 (by omega), vw_e s4 (by omega)]
  exact ⟨s1, s2, s3, s4, s5, s7, s9, s10, b1, b2⟩
theorem vw_ge {c : Nat} {nd en po : Nat → Nat} {w0 h0 : Nat} {root : Int32} {pa fi se ori sh lw lh rx ry rw rh kd vl lv : Nat → Int32} {X Y W H mw mh : Nat → Nat} (G : rl_G c nd en po w0 h0 root pa fi se ori sh lw lh rx ry rw rh kd vl lv) (N : la_N c nd lw lh rx ry rw rh w0 h0 X Y W H mw mh) {q r s : Nat} (hq : q < c) : vw_in rx ry rw rh (nd q) r s ↔ ge_in X Y W H r s q := by
  obtain ⟨n1, n2, n3, n4, n5, n6, n7, n8, n9, n10, n11, n12⟩ := N q hq
  have b1 := G.2.2.2.2.1
  have b2 := G.2.2.2.2.2.2.1
  unfold vw_in ge_in
  rw [vw_e n3 (by omega), vw_e n4 (by omega), vw_e n5 (by omega), vw_e n6 (by omega)]
  constructor <;> intro z <;> omega
theorem vw_un {c : Nat} {nd en po : Nat → Nat} {w0 h0 : Nat} {root : Int32} {pa fi se ori sh lw lh rx ry rw rh kd vl lv : Nat → Int32} (G : rl_G c nd en po w0 h0 root pa fi se ori sh lw lh rx ry rw rh kd vl lv) {g g' r s : Nat} (hg : g < 8) (hl : lv g ≠ 0) (hg' : g' < 8) (hl' : lv g' ≠ 0) (h : vw_in rx ry rw rh g r s) (h' : vw_in rx ry rw rh g' r s) : g = g' := by
  obtain ⟨X, Y, W, H, mw, mh, N, GG⟩ := rl_nat G
  obtain ⟨q, hq, kq, e⟩ := rl_leaf G hg hl
  obtain ⟨q', hq', kq', e'⟩ := rl_leaf G hg' hl'
  subst e e'
  have P := G.1.1
  have := ge_two P GG 0 P.1 q q' (Nat.zero_le _) (by rw [P.2.1]; exact hq) (Nat.zero_le _) (by rw [P.2.1]; exact hq') kq kq' ((vw_ge G N hq).mp h) ((vw_ge G N hq').mp h')
  rw [this]
/-- a cell of the host that no pane holds lies on the border of one split -/
theorem vw_bd {c : Nat} {nd en po : Nat → Nat} {w0 h0 : Nat} {root : Int32} {pa fi se ori sh lw lh rx ry rw rh kd vl lv : Nat → Int32} {X Y W H mw mh : Nat → Nat} (G : rl_G c nd en po w0 h0 root pa fi se ori sh lw lh rx ry rw rh kd vl lv) (N : la_N c nd lw lh rx ry rw rh w0 h0 X Y W H mw mh) (GG : ge_G c kd en X Y W H) {r s : Nat} (hr : r < h0) (hs : s < w0) (no : ∀ g, g < 8 → lv g ≠ 0 → ¬ vw_in rx ry rw rh g r s) : ∃ j, j < c ∧ ge_bd kd X Y W H r s j := by
  obtain ⟨T, L, E, g1, g2, g3, g4, g5, g6, g7⟩ := id G
  obtain ⟨P, T2, T3, T4, T5, T6, T7⟩ := id T
  have in0 : ge_in X Y W H r s 0 := by
    obtain ⟨n1, n2, n3, n4, n5, n6, n7, n8, n9, n10, n11, n12⟩ := N 0 P.1
    obtain ⟨E1, E2, E3, E4, E5⟩ := E
    have q1 : X 0 = 0 := (nI_eq (by omega) (by omega)).mp (n3.symm.trans E1)
    have q2 : Y 0 = 0 := (nI_eq (by omega) (by omega)).mp (n4.symm.trans E2)
    have q3 : W 0 = w0 := (nI_eq (by omega) (by omega)).mp (n5.symm.trans E3)
    have q4 : H 0 = h0 := (nI_eq (by omega) (by omega)).mp (n6.symm.trans E4)
    unfold ge_in
    omega
  obtain ⟨j, _, jc, hj⟩ := ge_cov P GG 0 P.1 in0
  rw [P.2.1] at jc
  rcases hj with ⟨kj, ij⟩ | b
  · have nj := ((T6 j jc).2.2.2.1 kj).1
    exact absurd ((vw_ge G N jc).mpr ij) (no (nd j) nj ((g7 (nd j) nj).2.mpr ⟨j, jc, rfl⟩))
  · exact ⟨j, jc, b⟩
section VW
variable {f_hostWidth f_hostHeight f_root f_focusedPane f_liveCount : Int32} {a_parent a_first a_second a_orientation a_share a_leastWidth a_leastHeight a_rectX a_rectY a_rectW a_rectH a_order a_live a_screenWidth a_screenHeight a_cursorRow a_cursorCol a_regionTop a_regionBottom a_parserMode a_paramOne a_paramTwo a_paramIndex a_cells : Nat → Int32}
variable {c : Nat} {kd vl : Nat → Int32} {nd en po : Nat → Nat} {w0 h0 : Nat}
theorem xr_dead {post : Int32 → Prop} {p x : Int32} (D : pd_D a_live p) (K : post (-1)) : wpX_paneRect post (f_hostWidth, f_hostHeight, f_root, f_focusedPane, f_liveCount, a_parent, a_first, a_second, a_orientation, a_share, a_leastWidth, a_leastHeight, a_rectX, a_rectY, a_rectW, a_rectH, a_order, a_live, a_screenWidth, a_screenHeight, a_cursorRow, a_cursorCol, a_regionTop, a_regionBottom, a_parserMode, a_paramOne, a_paramTwo, a_paramIndex, a_cells) p x := by
  unfold wpX_paneRect
  exact xw_dead D (br_t rfl K)
theorem xr_0 {post : Int32 → Prop} {g : Nat} (hg : g < 8) (hl : a_live g ≠ 0) (K : post (a_rectX g)) : wpX_paneRect post (f_hostWidth, f_hostHeight, f_root, f_focusedPane, f_liveCount, a_parent, a_first, a_second, a_orientation, a_share, a_leastWidth, a_leastHeight, a_rectX, a_rectY, a_rectW, a_rectH, a_order, a_live, a_screenWidth, a_screenHeight, a_cursorRow, a_cursorCol, a_regionTop, a_regionBottom, a_parserMode, a_paramOne, a_paramTwo, a_paramIndex, a_cells) (nI g) 0 := by
  unfold wpX_paneRect
  rw [← cg_8 hg] at K
  exact xw_live hg hl (br_f (by decide) (br_f (by decide) (br_f (by decide) (br_t rfl ⟨vi_15 (by omega), K⟩))))
theorem xr_1 {post : Int32 → Prop} {g : Nat} (hg : g < 8) (hl : a_live g ≠ 0) (K : post (a_rectY g)) : wpX_paneRect post (f_hostWidth, f_hostHeight, f_root, f_focusedPane, f_liveCount, a_parent, a_first, a_second, a_orientation, a_share, a_leastWidth, a_leastHeight, a_rectX, a_rectY, a_rectW, a_rectH, a_order, a_live, a_screenWidth, a_screenHeight, a_cursorRow, a_cursorCol, a_regionTop, a_regionBottom, a_parserMode, a_paramOne, a_paramTwo, a_paramIndex, a_cells) (nI g) 1 := by
  unfold wpX_paneRect
  rw [← cg_8 hg] at K
  exact xw_live hg hl (br_f (by decide) (br_f (by decide) (br_f (by decide) (br_f (by decide) (br_t rfl ⟨vi_15 (by omega), K⟩)))))
theorem xr_2 {post : Int32 → Prop} {g : Nat} (hg : g < 8) (hl : a_live g ≠ 0) (K : post (a_rectW g)) : wpX_paneRect post (f_hostWidth, f_hostHeight, f_root, f_focusedPane, f_liveCount, a_parent, a_first, a_second, a_orientation, a_share, a_leastWidth, a_leastHeight, a_rectX, a_rectY, a_rectW, a_rectH, a_order, a_live, a_screenWidth, a_screenHeight, a_cursorRow, a_cursorCol, a_regionTop, a_regionBottom, a_parserMode, a_paramOne, a_paramTwo, a_paramIndex, a_cells) (nI g) 2 := by
  unfold wpX_paneRect
  rw [← cg_8 hg] at K
  exact xw_live hg hl (br_f (by decide) (br_f (by decide) (br_f (by decide) (br_f (by decide) (br_f (by decide) (br_t rfl ⟨vi_15 (by omega), K⟩))))))
theorem xr_3 {post : Int32 → Prop} {g : Nat} (hg : g < 8) (hl : a_live g ≠ 0) (K : post (a_rectH g)) : wpX_paneRect post (f_hostWidth, f_hostHeight, f_root, f_focusedPane, f_liveCount, a_parent, a_first, a_second, a_orientation, a_share, a_leastWidth, a_leastHeight, a_rectX, a_rectY, a_rectW, a_rectH, a_order, a_live, a_screenWidth, a_screenHeight, a_cursorRow, a_cursorCol, a_regionTop, a_regionBottom, a_parserMode, a_paramOne, a_paramTwo, a_paramIndex, a_cells) (nI g) 3 := by
  unfold wpX_paneRect
  rw [← cg_8 hg] at K
  exact xw_live hg hl (br_f (by decide) (br_f (by decide) (br_f (by decide) (br_f (by decide) (br_f (by decide) (br_f (by decide) (br_t rfl ⟨vi_15 (by omega), K⟩)))))))
theorem xo_ins {post : Int32 → Prop} {g r s : Nat} (G : rl_G c nd en po w0 h0 f_root a_parent a_first a_second a_orientation a_share a_leastWidth a_leastHeight a_rectX a_rectY a_rectW a_rectH kd vl a_live) (hg : g < 8) (hl : a_live g ≠ 0) (hr : r < 2 ^ 31) (hs : s < 2 ^ 31) (K1 : vw_in a_rectX a_rectY a_rectW a_rectH g r s → post 1) (K0 : ¬ vw_in a_rectX a_rectY a_rectW a_rectH g r s → post 0) : wpX_isInside post (f_hostWidth, f_hostHeight, f_root, f_focusedPane, f_liveCount, a_parent, a_first, a_second, a_orientation, a_share, a_leastWidth, a_leastHeight, a_rectX, a_rectY, a_rectW, a_rectH, a_order, a_live, a_screenWidth, a_screenHeight, a_cursorRow, a_cursorCol, a_regionTop, a_regionBottom, a_parserMode, a_paramOne, a_paramTwo, a_paramIndex, a_cells) (nI g) (nI r) (nI s) := by
  obtain ⟨s1, s2, s3, s4, s5, s6, s7, s8, s9, s10⟩ := vw_sz G hg hl
  have v15 : vp_in (nI g) 15 := vi_15 (by omega)
  have e : (nI g).toNatClampNeg = g := cg_15 (by omega)
  unfold vw_in at K1 K0
  refine ⟨v15, nm_r (e' := nI (vw_n a_rectX g)) (by rw [e]; exact s1) ⟨v15, nm_r (e' := nI (vw_n a_rectY g)) (by rw [e]; exact s2) ?_⟩⟩
  rw [e, s3, s4, nI_add, nI_add]
  refine pk_lt r (vw_n a_rectY g) (fun z => K0 (fun y => by omega)) (fun z => ⟨v15, pk_le (vw_n a_rectY g + vw_n a_rectH g) r (fun z2 => K0 (fun y => by omega)) (fun z2 => pk_lt s (vw_n a_rectX g) (fun z3 => K0 (fun y => by omega)) (fun z3 => ⟨v15, pk_le (vw_n a_rectX g + vw_n a_rectW g) s (fun z4 => K0 (fun y => by omega)) (fun z4 => K1 ⟨⟨z, z2⟩, ⟨z3, z4⟩⟩)⟩))⟩)
/-- the owner of a cell of the host -/
theorem xo_own {post : Int32 → Prop} {r s : Nat} (G : rl_G c nd en po w0 h0 f_root a_parent a_first a_second a_orientation a_share a_leastWidth a_leastHeight a_rectX a_rectY a_rectW a_rectH kd vl a_live) (hr : r < h0) (hs : s < w0) (K1 : ∀ g, g < 8 → a_live g ≠ 0 → vw_in a_rectX a_rectY a_rectW a_rectH g r s → post (nI g)) (K0 : (∀ g, g < 8 → a_live g ≠ 0 → ¬ vw_in a_rectX a_rectY a_rectW a_rectH g r s) → post (-1)) : wpX_hostOwner post (nI w0, nI h0, f_root, f_focusedPane, f_liveCount, a_parent, a_first, a_second, a_orientation, a_share, a_leastWidth, a_leastHeight, a_rectX, a_rectY, a_rectW, a_rectH, a_order, a_live, a_screenWidth, a_screenHeight, a_cursorRow, a_cursorCol, a_regionTop, a_regionBottom, a_parserMode, a_paramOne, a_paramTwo, a_paramIndex, a_cells) (nI r) (nI s) := by
  have b1 := G.2.2.2.2.1
  have b2 := G.2.2.2.2.2.2.1
  have main : ∀ dd i, i + dd = 8 → (∀ j, j < i → a_live j ≠ 0 → ¬ vw_in a_rectX a_rectY a_rectW a_rectH j r s) → wX_hostOwner_29 post (nI r) (nI s) (nI w0) (nI h0) f_root f_focusedPane f_liveCount a_parent a_first a_second a_orientation a_share a_leastWidth a_leastHeight a_rectX a_rectY a_rectW a_rectH a_order a_live a_screenWidth a_screenHeight a_cursorRow a_cursorCol a_regionTop a_regionBottom a_parserMode a_paramOne a_paramTwo a_paramIndex a_cells (dd + 1) (nI i) := by
    intro dd
    induction dd with
    | zero =>
      intro i hi no
      have e : i = 8 := by omega
      subst e
      exact br_t (nI_le (a := 8) (Nat.le_refl _) (by omega)) (K0 no)
    | succ dd ih =>
      intro i hi no
      have h8 : i < 8 := by omega
      have nx : (a_live i ≠ 0 → ¬ vw_in a_rectX a_rectY a_rectW a_rectH i r s) → ∀ j, j < i + 1 → a_live j ≠ 0 → ¬ vw_in a_rectX a_rectY a_rectW a_rectH j r s := by
        intro h j hj
        by_cases z : j = i
        · rw [z]; exact h
        · exact no j (by omega)
      refine br_f (nI_ge (b := 8) h8 (by omega)) ⟨vi_8 h8, ?_⟩
      rw [cg_8 h8]
      by_cases z : a_live i = 0
      · exact br_t z (nm_r (nI_1 i) (ih (i + 1) (by omega) (nx (fun y => absurd z y))))
      · exact br_f z (xo_ins G h8 z (by omega) (by omega) (fun y => br_f (by decide) (K1 i h8 z y)) (fun y => br_t rfl (nm_r (nI_1 i) (ih (i + 1) (by omega) (nx (fun _ => y))))))
  exact br_f (nI_pos (by omega)) (br_f (nI_ge hr (by omega)) (br_f (nI_pos (by omega)) (br_t (nI_lt hs (by omega)) ⟨9, main 8 0 (by omega) (fun j hj => by omega)⟩)))
/-- a cell of a live pane's screen -/
theorem xo_pc {post : Int32 → Prop} {g r s w h : Nat} (hg : g < 8) (hl : a_live g ≠ 0) (hw : a_screenWidth g = nI w) (hh : a_screenHeight g = nI h) (w4 : w ≤ 24) (h4 : h ≤ 12) (H : ce_H (g * 288) a_cells) (hr : r < h) (hs : s < w) (K : post (a_cells (g * 288 + r * 24 + s))) : wpX_paneChar post (f_hostWidth, f_hostHeight, f_root, f_focusedPane, f_liveCount, a_parent, a_first, a_second, a_orientation, a_share, a_leastWidth, a_leastHeight, a_rectX, a_rectY, a_rectW, a_rectH, a_order, a_live, a_screenWidth, a_screenHeight, a_cursorRow, a_cursorCol, a_regionTop, a_regionBottom, a_parserMode, a_paramOne, a_paramTwo, a_paramIndex, a_cells) (nI g) (nI r) (nI s) := by
  have v8 := vi_8 hg
  have e := cg_8 hg
  obtain ⟨n, hn, en⟩ := H (g * 288 + r * 24 + s) (by omega) (by omega)
  unfold wpX_paneChar
  refine xw_live hg hl (br_f (by decide) (br_f (nI_pos (by omega)) ⟨v8, br_f (by rw [e, hh]; exact nI_ge hr (by omega)) (br_f (nI_pos (by omega)) ⟨v8, br_t (by rw [e, hw]; exact nI_lt hs (by omega)) (xw_ci ⟨vp_in_nI (by omega) (by omega), ?_⟩)⟩)⟩))
  rw [nI_clamp (by omega)]
  refine ⟨by rw [en]; exact (pk_charN hn).1, K⟩
end VW
end
section
section HC
variable {f_hostWidth f_hostHeight f_root f_focusedPane f_liveCount : Int32} {a_parent a_first a_second a_orientation a_share a_leastWidth a_leastHeight a_rectX a_rectY a_rectW a_rectH a_order a_live a_screenWidth a_screenHeight a_cursorRow a_cursorCol a_regionTop a_regionBottom a_parserMode a_paramOne a_paramTwo a_paramIndex a_cells : Nat → Int32}
variable {c : Nat} {kd vl : Nat → Int32} {nd en po : Nat → Nat} {w0 h0 : Nat}
/-- what an object keeps, as far as its reading methods need it -/
def ov_V (f_hostWidth f_hostHeight f_root f_focusedPane f_liveCount : Int32) (a_parent a_first a_second a_orientation a_share a_leastWidth a_leastHeight a_rectX a_rectY a_rectW a_rectH a_order a_live a_screenWidth a_screenHeight a_cursorRow a_cursorCol a_regionTop a_regionBottom a_parserMode a_paramOne a_paramTwo a_paramIndex a_cells : Nat → Int32) (c : Nat) (kd vl : Nat → Int32) (nd en po : Nat → Nat) (w0 h0 : Nat) : Prop :=
  f_hostWidth = nI w0 ∧ f_hostHeight = nI h0 ∧ f_liveCount = nI (cc_n (fun g => a_live g ≠ 0) 8) ∧ rl_G c nd en po w0 h0 f_root a_parent a_first a_second a_orientation a_share a_leastWidth a_leastHeight a_rectX a_rectY a_rectW a_rectH kd vl a_live ∧ ∀ g, g < 8 → a_live g ≠ 0 → a_screenWidth g = a_rectW g ∧ a_screenHeight g = a_rectH g ∧ ce_H (g * 288) a_cells
theorem xo_hcin {post : Int32 → Prop} {g r s : Nat} (V : ov_V f_hostWidth f_hostHeight f_root f_focusedPane f_liveCount a_parent a_first a_second a_orientation a_share a_leastWidth a_leastHeight a_rectX a_rectY a_rectW a_rectH a_order a_live a_screenWidth a_screenHeight a_cursorRow a_cursorCol a_regionTop a_regionBottom a_parserMode a_paramOne a_paramTwo a_paramIndex a_cells c kd vl nd en po w0 h0) (hg : g < 8) (hl : a_live g ≠ 0) (hin : vw_in a_rectX a_rectY a_rectW a_rectH g r s) (K : post (a_cells (g * 288 + (r - vw_n a_rectY g) * 24 + (s - vw_n a_rectX g)))) : wpX_hostChar post (f_hostWidth, f_hostHeight, f_root, f_focusedPane, f_liveCount, a_parent, a_first, a_second, a_orientation, a_share, a_leastWidth, a_leastHeight, a_rectX, a_rectY, a_rectW, a_rectH, a_order, a_live, a_screenWidth, a_screenHeight, a_cursorRow, a_cursorCol, a_regionTop, a_regionBottom, a_parserMode, a_paramOne, a_paramTwo, a_paramIndex, a_cells) (nI r) (nI s) := by
  obtain ⟨rfl, rfl, _, G, S⟩ := V
  obtain ⟨s1, s2, s3, s4, s5, s6, s7, s8, s9, s10⟩ := vw_sz G hg hl
  obtain ⟨c1, c2, c3⟩ := S g hg hl
  have v15 : vp_in (nI g) 15 := vi_15 (by omega)
  have e : (nI g).toNatClampNeg = g := cg_15 (by omega)
  have hin' := hin
  unfold vw_in at hin'
  unfold wpX_hostChar
  refine xo_own G (by omega) (by omega) (fun g' hg' hl' hin2 => ?_) (fun no => absurd hin (no g hg hl))
  have eg := vw_un G hg' hl' hg hl hin2 hin
  subst eg
  refine br_f (fun z => by have := nI_pos (n := g') (by omega); rw [z] at this; exact this (by decide)) (br_f (tr_m1 (by omega)) ⟨v15, v15, ?_⟩)
  rw [e, s1, s2, pk_sub (by omega), pk_sub (by omega)]
  obtain ⟨n, hn, en'⟩ := c3 (g' * 288 + (r - vw_n a_rectY g') * 24 + (s - vw_n a_rectX g')) (by omega) (by omega)
  refine xo_pc (w := vw_n a_rectW g') (h := vw_n a_rectH g') hg' hl' (c1.trans s3) (c2.trans s4) (by omega) (by omega) c3 (by omega) (by omega) ⟨?_, K⟩
  rw [en']
  exact (pk_charN hn).1
theorem xo_hcbd {post : Int32 → Prop} {j r s : Nat} {X Y W H mw mh : Nat → Nat} (V : ov_V f_hostWidth f_hostHeight f_root f_focusedPane f_liveCount a_parent a_first a_second a_orientation a_share a_leastWidth a_leastHeight a_rectX a_rectY a_rectW a_rectH a_order a_live a_screenWidth a_screenHeight a_cursorRow a_cursorCol a_regionTop a_regionBottom a_parserMode a_paramOne a_paramTwo a_paramIndex a_cells c kd vl nd en po w0 h0) (N : la_N c nd a_leastWidth a_leastHeight a_rectX a_rectY a_rectW a_rectH w0 h0 X Y W H mw mh) (GG : ge_G c kd en X Y W H) (hr : r < h0) (hs : s < w0) (no : ∀ g, g < 8 → a_live g ≠ 0 → ¬ vw_in a_rectX a_rectY a_rectW a_rectH g r s) (jc : j < c) (bd : ge_bd kd X Y W H r s j) (K : post (if kd j = 1 then 124 else 45)) : wpX_hostChar post (f_hostWidth, f_hostHeight, f_root, f_focusedPane, f_liveCount, a_parent, a_first, a_second, a_orientation, a_share, a_leastWidth, a_leastHeight, a_rectX, a_rectY, a_rectW, a_rectH, a_order, a_live, a_screenWidth, a_screenHeight, a_cursorRow, a_cursorCol, a_regionTop, a_regionBottom, a_parserMode, a_paramOne, a_paramTwo, a_paramIndex, a_cells) (nI r) (nI s) := by
  obtain ⟨rfl, rfl, _, G, S⟩ := V
  have P := G.1.1
  have b1 := G.2.2.2.2.1
  have b2 := G.2.2.2.2.2.2.1
  unfold wpX_hostChar
  refine xo_own G hr hs (fun g hg hl hin => absurd hin (no g hg hl)) (fun _ => br_f (by decide) (br_t rfl ?_))
  by_cases kj : kd j = 1
  · rw [if_pos kj] at K
    exact xw_border1 G.1 b1 b2 N GG (by omega) (by omega) jc kj bd ⟨(pk_charN (q := 124) (by omega)).1, K⟩
  · rw [if_neg kj] at K
    refine xw_border2 G.1 b1 b2 N GG (by omega) (by omega) (fun i hi ki b => ?_) ⟨(pk_charN (q := 45) (by omega)).1, K⟩
    have e := ge_one P GG 0 P.1 i j (Nat.zero_le _) (by rw [P.2.1]; exact hi) (Nat.zero_le _) (by rw [P.2.1]; exact jc) b bd
    subst e
    exact kj ki
theorem xo_hcout {post : Int32 → Prop} {r s : Nat} (V : ov_V f_hostWidth f_hostHeight f_root f_focusedPane f_liveCount a_parent a_first a_second a_orientation a_share a_leastWidth a_leastHeight a_rectX a_rectY a_rectW a_rectH a_order a_live a_screenWidth a_screenHeight a_cursorRow a_cursorCol a_regionTop a_regionBottom a_parserMode a_paramOne a_paramTwo a_paramIndex a_cells c kd vl nd en po w0 h0) (hr : r < 2 ^ 31) (hs : s < 2 ^ 31) (o : h0 ≤ r ∨ w0 ≤ s) (K : post 0) : wpX_hostChar post (f_hostWidth, f_hostHeight, f_root, f_focusedPane, f_liveCount, a_parent, a_first, a_second, a_orientation, a_share, a_leastWidth, a_leastHeight, a_rectX, a_rectY, a_rectW, a_rectH, a_order, a_live, a_screenWidth, a_screenHeight, a_cursorRow, a_cursorCol, a_regionTop, a_regionBottom, a_parserMode, a_paramOne, a_paramTwo, a_paramIndex, a_cells) (nI r) (nI s) := by
  obtain ⟨rfl, rfl, _, G, S⟩ := V
  have b1 := G.2.2.2.2.1
  have b2 := G.2.2.2.2.2.2.1
  unfold wpX_hostChar
  refine br_f (nI_pos hr) ?_
  by_cases z : h0 ≤ r
  · exact br_t (nI_le z hr) (br_t rfl K)
  · exact br_f (nI_ge (by omega) (by omega)) (br_f (nI_pos hs) (br_f (nI_nlt (by omega) hs) (br_t rfl K)))
/-- is the cell in the rectangle of pane p -/
theorem xo_rect {post : Int32 → Prop} {r s : Nat} {p : Int32} (V : ov_V f_hostWidth f_hostHeight f_root f_focusedPane f_liveCount a_parent a_first a_second a_orientation a_share a_leastWidth a_leastHeight a_rectX a_rectY a_rectW a_rectH a_order a_live a_screenWidth a_screenHeight a_cursorRow a_cursorCol a_regionTop a_regionBottom a_parserMode a_paramOne a_paramTwo a_paramIndex a_cells c kd vl nd en po w0 h0) (hr : r < 2 ^ 31) (hs : s < 2 ^ 31) (K1 : ∀ g, g < 8 → p = nI g → a_live g ≠ 0 → vw_in a_rectX a_rectY a_rectW a_rectH g r s → post 1) (K0 : (∀ g, g < 8 → p = nI g → a_live g ≠ 0 → ¬ vw_in a_rectX a_rectY a_rectW a_rectH g r s) → post 0) : wpL_inRect post (f_hostWidth, f_hostHeight, f_root, f_focusedPane, f_liveCount, a_parent, a_first, a_second, a_orientation, a_share, a_leastWidth, a_leastHeight, a_rectX, a_rectY, a_rectW, a_rectH, a_order, a_live, a_screenWidth, a_screenHeight, a_cursorRow, a_cursorCol, a_regionTop, a_regionBottom, a_parserMode, a_paramOne, a_paramTwo, a_paramIndex, a_cells) p (nI r) (nI s) := by
  obtain ⟨_, _, _, G, S⟩ := V
  unfold wpL_inRect
  rcases pd_or a_live p with D | ⟨g, hg, e, hl⟩
  · refine xr_dead D (xr_dead D (xr_dead D (xr_dead D (br_f (by decide) (K0 (fun g hg e hl => ?_))))))
    subst e
    rcases D with h | h | ⟨g', hg', e', z⟩
    · exact absurd h (nI_pos (by omega))
    · exact absurd h (nI_ge (b := 8) hg (by omega))
    · have := (nI_eq (by omega) (by omega)).mp e'
      subst this
      exact absurd z hl
  · subst e
    obtain ⟨s1, s2, s3, s4, s5, s6, s7, s8, s9, s10⟩ := vw_sz G hg hl
    have uq : ∀ g', g' < 8 → nI g = nI g' → g' = g := fun g' h' e' => ((nI_eq (by omega) (by omega)).mp e').symm
    have K1' := K1 g hg rfl hl
    have K0' : ¬ vw_in a_rectX a_rectY a_rectW a_rectH g r s → post 0 := fun n => K0 (fun g' hg' e' _ => by rw [uq g' hg' e']; exact n)
    unfold vw_in at K1' K0'
    refine xr_0 hg hl (xr_1 hg hl (xr_2 hg hl (xr_3 hg hl ?_)))
    rw [s1, s2, s3, s4, nI_add, nI_add]
    refine br_t (nI_pos' (by omega)) ?_
    refine pk_lt r (vw_n a_rectY g) (fun z => K0' (fun y => by omega)) (fun z => pk_le (vw_n a_rectY g + vw_n a_rectH g) r (fun z2 => K0' (fun y => by omega)) (fun z2 => pk_lt s (vw_n a_rectX g) (fun z3 => K0' (fun y => by omega)) (fun z3 => pk_le (vw_n a_rectX g + vw_n a_rectW g) s (fun z4 => K0' (fun y => by omega)) (fun z4 => K1' ⟨⟨z, z2⟩, ⟨z3, z4⟩⟩))))
end HC
end
section
/-- 1 where no pane holds the cell -/
noncomputable def iv_b (lv rx ry rw rh : Nat → Int32) (r s : Nat) : Nat := cc_b (∀ g, g < 8 → lv g ≠ 0 → ¬ vw_in rx ry rw rh g r s)
def iv_n (lv rx ry rw rh : Nat → Int32) (g r s : Nat) : Nat := if lv g = 0 then 0 else if (vw_n ry g ≤ r ∧ r < vw_n ry g + vw_n rh g) ∧ (vw_n rx g ≤ s ∧ s < vw_n rx g + vw_n rw g) then 1 else 0
def iv_A (lv rw rh : Nat → Int32) : Nat → Nat := sm_f (fun g => if lv g = 0 then 0 else vw_n rw g * vw_n rh g)
noncomputable def iv_B (lv rx ry rw rh : Nat → Int32) (w0 : Nat) : Nat → Nat := sm_f (fun r => sm_f (fun s => iv_b lv rx ry rw rh r s) w0)
theorem iv_one {c : Nat} {nd en po : Nat → Nat} {w0 h0 : Nat} {root : Int32} {pa fi se ori sh lw lh rx ry rw rh kd vl lv : Nat → Int32} (G : rl_G c nd en po w0 h0 root pa fi se ori sh lw lh rx ry rw rh kd vl lv) (r s : Nat) : iv_b lv rx ry rw rh r s + sm_f (fun g => iv_n lv rx ry rw rh g r s) 8 = 1 := by
  have n1 : ∀ g, iv_n lv rx ry rw rh g r s = 1 ↔ lv g ≠ 0 ∧ vw_in rx ry rw rh g r s := by
    intro g
    unfold iv_n vw_in
    by_cases z : lv g = 0
    · rw [if_pos z]; exact ⟨fun y => by omega, fun y => absurd z y.1⟩
    · rw [if_neg z]
      by_cases y : (vw_n ry g ≤ r ∧ r < vw_n ry g + vw_n rh g) ∧ (vw_n rx g ≤ s ∧ s < vw_n rx g + vw_n rw g)
      · rw [if_pos y]; exact ⟨fun _ => ⟨z, y⟩, fun _ => rfl⟩
      · rw [if_neg y]; exact ⟨fun x => by omega, fun x => absurd x.2 y⟩
  have n01 : ∀ g, iv_n lv rx ry rw rh g r s = 0 ∨ iv_n lv rx ry rw rh g r s = 1 := by
    intro g
    unfold iv_n
    split
    · exact Or.inl rfl
    · split
      · exact Or.inr rfl
      · exact Or.inl rfl
  rcases sm_one (f := fun g => iv_n lv rx ry rw rh g r s) (n := 8) (fun g _ => n01 g) (fun g g' hg hg' h h' => vw_un G hg ((n1 g).mp h).1 hg' ((n1 g').mp h').1 ((n1 g).mp h).2 ((n1 g').mp h').2) with ⟨a, b⟩ | ⟨a, g, hg, b⟩
  · rw [a]
    unfold iv_b
    rw [cc_bt]
    intro g hg hl hin
    have z := b g hg
    have o := (n1 g).mpr ⟨hl, hin⟩
    try dsimp only at z
    omega
  · rw [a]
    unfold iv_b
    rw [cc_bf]
    intro no
    exact no g hg ((n1 g).mp b).1 ((n1 g).mp b).2
theorem iv_cnt {c : Nat} {nd en po : Nat → Nat} {w0 h0 : Nat} {root : Int32} {pa fi se ori sh lw lh rx ry rw rh kd vl lv : Nat → Int32} (G : rl_G c nd en po w0 h0 root pa fi se ori sh lw lh rx ry rw rh kd vl lv) : iv_B lv rx ry rw rh w0 h0 + iv_A lv rw rh 8 = h0 * w0 := by
  have e1 : iv_A lv rw rh 8 = sm_f (fun g => sm_f (fun r => sm_f (fun s => iv_n lv rx ry rw rh g r s) w0) h0) 8 := by
    unfold iv_A
    refine sm_c (fun g hg => ?_)
    unfold iv_n
    by_cases z : lv g = 0
    · rw [if_pos z]
      have : sm_f (fun r => sm_f (fun s => if lv g = 0 then 0 else if (vw_n ry g ≤ r ∧ r < vw_n ry g + vw_n rh g) ∧ (vw_n rx g ≤ s ∧ s < vw_n rx g + vw_n rw g) then 1 else 0) w0) h0 = sm_f (fun _ => 0) h0 := sm_c (fun r _ => by
        have : sm_f (fun s => if lv g = 0 then 0 else if (vw_n ry g ≤ r ∧ r < vw_n ry g + vw_n rh g) ∧ (vw_n rx g ≤ s ∧ s < vw_n rx g + vw_n rw g) then 1 else 0) w0 = sm_f (fun _ => 0) w0 := sm_c (fun s _ => by rw [if_pos z])
        rw [this, sm_k, Nat.mul_zero])
      rw [this, sm_k, Nat.mul_zero]
    · rw [if_neg z]
      obtain ⟨s1, s2, s3, s4, s5, s6, s7, s8, s9, s10⟩ := vw_sz G hg z
      have : sm_f (fun r => sm_f (fun s => if lv g = 0 then 0 else if (vw_n ry g ≤ r ∧ r < vw_n ry g + vw_n rh g) ∧ (vw_n rx g ≤ s ∧ s < vw_n rx g + vw_n rw g) then 1 else 0) w0) h0 = sm_f (fun r => sm_f (fun s => if (vw_n ry g ≤ r ∧ r < vw_n ry g + vw_n rh g) ∧ (vw_n rx g ≤ s ∧ s < vw_n rx g + vw_n rw g) then 1 else 0) w0) h0 := sm_c (fun r _ => sm_c (fun s _ => by rw [if_neg z]))
      rw [this, sm_rect s7 s8]
  have e2 : sm_f (fun g => sm_f (fun r => sm_f (fun s => iv_n lv rx ry rw rh g r s) w0) h0) 8 = sm_f (fun r => sm_f (fun s => sm_f (fun g => iv_n lv rx ry rw rh g r s) 8) w0) h0 := by
    rw [sm_sw (fun g r => sm_f (fun s => iv_n lv rx ry rw rh g r s) w0) h0 8]
    exact sm_c (fun r _ => sm_sw (fun g s => iv_n lv rx ry rw rh g r s) w0 8)
  rw [e1, e2]
  unfold iv_B
  rw [← sm_a]
  have e3 : sm_f (fun r => sm_f (fun s => iv_b lv rx ry rw rh r s) w0 + sm_f (fun s => sm_f (fun g => iv_n lv rx ry rw rh g r s) 8) w0) h0 = sm_f (fun _ => w0) h0 := by
    refine sm_c (fun r _ => ?_)
    rw [← sm_a]
    have : sm_f (fun s => iv_b lv rx ry rw rh r s + sm_f (fun g => iv_n lv rx ry rw rh g r s) 8) w0 = sm_f (fun _ => 1) w0 := sm_c (fun s _ => iv_one G r s)
    rw [this, sm_k, Nat.mul_one]
  rw [e3, sm_k]
theorem iv_bb {lv rx ry rw rh : Nat → Int32} {r s : Nat} : ((∀ g, g < 8 → lv g ≠ 0 → ¬ vw_in rx ry rw rh g r s) → iv_b lv rx ry rw rh r s = 1) ∧ (∀ g, g < 8 → lv g ≠ 0 → vw_in rx ry rw rh g r s → iv_b lv rx ry rw rh r s = 0) :=
  ⟨fun h => cc_bt h, fun g hg hl hin => cc_bf (fun h => h g hg hl hin)⟩
section IV
variable {f_hostWidth f_hostHeight f_root f_focusedPane f_liveCount : Int32} {a_parent a_first a_second a_orientation a_share a_leastWidth a_leastHeight a_rectX a_rectY a_rectW a_rectH a_order a_live a_screenWidth a_screenHeight a_cursorRow a_cursorCol a_regionTop a_regionBottom a_parserMode a_paramOne a_paramTwo a_paramIndex a_cells : Nat → Int32}
variable {c : Nat} {kd vl : Nat → Int32} {nd en po : Nat → Nat} {w0 h0 : Nat}
/-- one cell of the host, looked at by the law -/
theorem iv_cell {post : Int32 → Prop} {J280 J289 : Int32 → Int32 → Prop} {x1 x2 x4 : Int32} {r s b : Nat} (V : ov_V f_hostWidth f_hostHeight f_root f_focusedPane f_liveCount a_parent a_first a_second a_orientation a_share a_leastWidth a_leastHeight a_rectX a_rectY a_rectW a_rectH a_order a_live a_screenWidth a_screenHeight a_cursorRow a_cursorCol a_regionTop a_regionBottom a_parserMode a_paramOne a_paramTwo a_paramIndex a_cells c kd vl nd en po w0 h0) (hr : r < h0) (hs : s < w0) (K : J289 (nI (b + iv_b a_live a_rectX a_rectY a_rectW a_rectH r s)) (nI (s + 1))) :
    wpX_hostOwner (fun r_14 => ∃ n, wL_invariants_311 post J280 J289 x1 x2 x4 (nI b) (nI r) (nI s) r_14 f_hostWidth f_hostHeight f_root f_focusedPane f_liveCount a_parent a_first a_second a_orientation a_share a_leastWidth a_leastHeight a_rectX a_rectY a_rectW a_rectH a_order a_live a_screenWidth a_screenHeight a_cursorRow a_cursorCol a_regionTop a_regionBottom a_parserMode a_paramOne a_paramTwo a_paramIndex a_cells n (-1) 0) (f_hostWidth, f_hostHeight, f_root, f_focusedPane, f_liveCount, a_parent, a_first, a_second, a_orientation, a_share, a_leastWidth, a_leastHeight, a_rectX, a_rectY, a_rectW, a_rectH, a_order, a_live, a_screenWidth, a_screenHeight, a_cursorRow, a_cursorCol, a_regionTop, a_regionBottom, a_parserMode, a_paramOne, a_paramTwo, a_paramIndex, a_cells) (nI r) (nI s) := by
  have V0 := V
  obtain ⟨rfl, rfl, _, G, S⟩ := V
  have b1 := G.2.2.2.2.1
  have b2 := G.2.2.2.2.2.2.1
  refine xo_own G hr hs (fun g hg hl hin => ?_) (fun no => ?_)
  · rw [iv_bb.2 g hg hl hin, Nat.add_zero] at K
    obtain ⟨s1, s2, s3, s4, s5, s6, s7, s8, s9, s10⟩ := vw_sz G hg hl
    obtain ⟨c1, c2, c3⟩ := S g hg hl
    have hin' := hin
    unfold vw_in at hin'
    have main : ∀ dd i, i + dd = 8 → wL_invariants_311 post J280 J289 x1 x2 x4 (nI b) (nI r) (nI s) (nI g) (nI w0) (nI h0) f_root f_focusedPane f_liveCount a_parent a_first a_second a_orientation a_share a_leastWidth a_leastHeight a_rectX a_rectY a_rectW a_rectH a_order a_live a_screenWidth a_screenHeight a_cursorRow a_cursorCol a_regionTop a_regionBottom a_parserMode a_paramOne a_paramTwo a_paramIndex a_cells (dd + 1) (if g < i then nI g else -1) (nI i) := by
      intro dd
      induction dd with
      | zero =>
        intro i hi
        have e : i = 8 := by omega
        subst e
        rw [if_pos hg]
        refine br_t (nI_le (a := 8) (Nat.le_refl _) (by omega)) (xo_hcin V0 hg hl hin ?_)
        refine br_f (tr_m1 (by omega)) (br_f (nI_pos (by omega)) (br_t rfl (xr_0 hg hl (xr_1 hg hl ?_))))
        rw [s1, s2, pk_sub (by omega), pk_sub (by omega)]
        exact xo_pc (w := vw_n a_rectW g) (h := vw_n a_rectH g) hg hl (c1.trans s3) (c2.trans s4) (by omega) (by omega) c3 (by omega) (by omega) (br_t rfl (nm_r (nI_1 s) K))
      | succ dd ih =>
        intro i hi
        have h8 : i < 8 := by omega
        have IH := ih (i + 1) (by omega)
        refine br_f (nI_ge (b := 8) h8 (by omega)) (xo_rect V0 (by omega) (by omega) (fun g' hg' e' hl' hin2 => ?_) (fun no => ?_))
        · have eg : g' = g := vw_un G hg' hl' hg hl hin2 hin
          subst eg
          have ei : i = g' := (nI_eq (by omega) (by omega)).mp e'
          subst ei
          rw [if_pos (by omega)] at IH
          exact br_f (by decide) (nm_r (nI_1 i) IH)
        · have ne : i ≠ g := fun e => no g hg (by rw [e]) hl hin
          have ei : (if g < i + 1 then nI g else (-1 : Int32)) = if g < i then nI g else -1 := by
            by_cases y : g < i
            · rw [if_pos y, if_pos (by omega)]
            · rw [if_neg y, if_neg (by omega)]
          rw [ei] at IH
          exact br_t rfl (nm_r (nI_1 i) IH)
    have m := main 8 0 (by omega)
    rw [if_neg (by omega)] at m
    exact ⟨9, m⟩
  · rw [iv_bb.1 no] at K
    obtain ⟨X, Y, W, H, mw, mh, N, GG⟩ := rl_nat G
    obtain ⟨j, jc, bd⟩ := vw_bd G N GG hr hs no
    have main : ∀ dd i, i + dd = 8 → wL_invariants_311 post J280 J289 x1 x2 x4 (nI b) (nI r) (nI s) (-1) (nI w0) (nI h0) f_root f_focusedPane f_liveCount a_parent a_first a_second a_orientation a_share a_leastWidth a_leastHeight a_rectX a_rectY a_rectW a_rectH a_order a_live a_screenWidth a_screenHeight a_cursorRow a_cursorCol a_regionTop a_regionBottom a_parserMode a_paramOne a_paramTwo a_paramIndex a_cells (dd + 1) (-1) (nI i) := by
      intro dd
      induction dd with
      | zero =>
        intro i hi
        refine br_t (nI_le (a := 8) (by omega) (by omega)) (xo_hcbd V0 N GG hr hs no jc bd (br_t rfl (br_t rfl ?_)))
        by_cases kj : kd j = 1
        · rw [if_pos kj]
          exact br_t rfl (nm_r (nI_1 b) (nm_r (nI_1 s) K))
        · rw [if_neg kj]
          exact br_f (by decide) (br_t rfl (nm_r (nI_1 b) (nm_r (nI_1 s) K)))
      | succ dd ih =>
        intro i hi
        exact br_f (nI_ge (b := 8) (by omega) (by omega)) (xo_rect V0 (by omega) (by omega) (fun g' hg' e' hl' hin2 => absurd hin2 (no g' hg' hl')) (fun _ => br_t rfl (nm_r (nI_1 i) (ih (i + 1) (by omega)))))
    exact ⟨9, main 8 0 (by omega)⟩
end IV
end
section
section IW
variable {f_hostWidth f_hostHeight f_root f_focusedPane f_liveCount : Int32} {a_parent a_first a_second a_orientation a_share a_leastWidth a_leastHeight a_rectX a_rectY a_rectW a_rectH a_order a_live a_screenWidth a_screenHeight a_cursorRow a_cursorCol a_regionTop a_regionBottom a_parserMode a_paramOne a_paramTwo a_paramIndex a_cells : Nat → Int32}
variable {c : Nat} {kd vl : Nat → Int32} {nd en po : Nat → Nat} {w0 h0 : Nat}
theorem iv_dead {g : Nat} (hg : g < 8) (h : a_live g = 0) : pd_D a_live (nI g) := Or.inr (Or.inr ⟨g, hg, rfl, h⟩)
/-- two live panes don't overlap -/
theorem iv_apart {p q : Nat} (G : rl_G c nd en po w0 h0 f_root a_parent a_first a_second a_orientation a_share a_leastWidth a_leastHeight a_rectX a_rectY a_rectW a_rectH kd vl a_live) (hp : p < 8) (lp : a_live p ≠ 0) (hq : q < 8) (lq : a_live q ≠ 0) (pq : p ≠ q) (o1 : vw_n a_rectX p < vw_n a_rectX q + vw_n a_rectW q) (o2 : vw_n a_rectX q < vw_n a_rectX p + vw_n a_rectW p) (o3 : vw_n a_rectY p < vw_n a_rectY q + vw_n a_rectH q) (o4 : vw_n a_rectY q < vw_n a_rectY p + vw_n a_rectH p) : False := by
  obtain ⟨s1, s2, s3, s4, s5, s6, s7, s8, s9, s10⟩ := vw_sz G hp lp
  obtain ⟨t1, t2, t3, t4, t5, t6, t7, t8, t9, t10⟩ := vw_sz G hq lq
  have ex : ∃ s, vw_n a_rectX p ≤ s ∧ s < vw_n a_rectX p + vw_n a_rectW p ∧ vw_n a_rectX q ≤ s ∧ s < vw_n a_rectX q + vw_n a_rectW q := by
    by_cases z : vw_n a_rectX p ≤ vw_n a_rectX q
    · exact ⟨vw_n a_rectX q, by omega, by omega, by omega, by omega⟩
    · exact ⟨vw_n a_rectX p, by omega, by omega, by omega, by omega⟩
  have ey : ∃ r, vw_n a_rectY p ≤ r ∧ r < vw_n a_rectY p + vw_n a_rectH p ∧ vw_n a_rectY q ≤ r ∧ r < vw_n a_rectY q + vw_n a_rectH q := by
    by_cases z : vw_n a_rectY p ≤ vw_n a_rectY q
    · exact ⟨vw_n a_rectY q, by omega, by omega, by omega, by omega⟩
    · exact ⟨vw_n a_rectY p, by omega, by omega, by omega, by omega⟩
  obtain ⟨s, x1, x2, x3, x4⟩ := ex
  obtain ⟨r, y1, y2, y3, y4⟩ := ey
  exact pq (vw_un G (r := r) (s := s) hp lp hq lq ⟨⟨y1, y2⟩, ⟨x1, x2⟩⟩ ⟨⟨y3, y4⟩, ⟨x3, x4⟩⟩)
theorem iv_pair {post : Int32 → Prop} {J45 : Int32 → Int32 → Int32 → Prop} {x1 x2 x3 x4 : Int32} {p : Nat} (G : rl_G c nd en po w0 h0 f_root a_parent a_first a_second a_orientation a_share a_leastWidth a_leastHeight a_rectX a_rectY a_rectW a_rectH kd vl a_live) (hp : p < 8) (lp : a_live p ≠ 0) (K : J45 x3 x4 (nI (p + 1))) :
    ∃ n, wL_invariants_158 post J45 x1 x2 x3 x4 (nI p) (nI (vw_n a_rectW p)) (nI (vw_n a_rectX p)) (nI (vw_n a_rectY p)) (nI (vw_n a_rectH p)) f_hostWidth f_hostHeight f_root f_focusedPane f_liveCount a_parent a_first a_second a_orientation a_share a_leastWidth a_leastHeight a_rectX a_rectY a_rectW a_rectH a_order a_live a_screenWidth a_screenHeight a_cursorRow a_cursorCol a_regionTop a_regionBottom a_parserMode a_paramOne a_paramTwo a_paramIndex a_cells n (nI (p + 1)) := by
  obtain ⟨s1, s2, s3, s4, s5, s6, s7, s8, s9, s10⟩ := vw_sz G hp lp
  have main : ∀ dd q, q + dd = 8 → p < q → wL_invariants_158 post J45 x1 x2 x3 x4 (nI p) (nI (vw_n a_rectW p)) (nI (vw_n a_rectX p)) (nI (vw_n a_rectY p)) (nI (vw_n a_rectH p)) f_hostWidth f_hostHeight f_root f_focusedPane f_liveCount a_parent a_first a_second a_orientation a_share a_leastWidth a_leastHeight a_rectX a_rectY a_rectW a_rectH a_order a_live a_screenWidth a_screenHeight a_cursorRow a_cursorCol a_regionTop a_regionBottom a_parserMode a_paramOne a_paramTwo a_paramIndex a_cells (dd + 1) (nI q) := by
    intro dd
    induction dd with
    | zero =>
      intro q hq pq
      exact br_t (nI_le (a := 8) (by omega) (by omega)) (nm_r (nI_1 p) K)
    | succ dd ih =>
      intro q hq pq
      have q8 : q < 8 := by omega
      have IH := ih (q + 1) (by omega) (by omega)
      refine br_f (nI_ge (b := 8) q8 (by omega)) ?_
      by_cases z : a_live q = 0
      · exact xr_dead (iv_dead q8 z) (br_t rfl (nm_r (nI_1 q) IH))
      · obtain ⟨t1, t2, t3, t4, t5, t6, t7, t8, t9, t10⟩ := vw_sz G q8 z
        refine xr_2 q8 z ?_
        rw [t3]
        refine br_f (tr_m1 (by omega)) (xr_0 q8 z (xr_1 q8 z (xr_3 q8 z ?_)))
        rw [t1, t2, t4, nI_add, nI_add, nI_add, nI_add]
        refine pk_le (vw_n a_rectX q + vw_n a_rectW q) (vw_n a_rectX p) (fun _ => nm_r (nI_1 q) IH) (fun o1 => pk_le (vw_n a_rectX p + vw_n a_rectW p) (vw_n a_rectX q) (fun _ => nm_r (nI_1 q) IH) (fun o2 => pk_le (vw_n a_rectY q + vw_n a_rectH q) (vw_n a_rectY p) (fun _ => nm_r (nI_1 q) IH) (fun o3 => pk_le (vw_n a_rectY p + vw_n a_rectH p) (vw_n a_rectY q) (fun _ => nm_r (nI_1 q) IH) (fun o4 => ?_))))
        exact (iv_apart G hp lp q8 z (by omega) o1 o2 o3 o4).elim
  exact ⟨_, main (7 - p) (p + 1) (by omega) (by omega)⟩
/-- the law's check of one object holds -/
theorem iv_all {post : Int32 → Prop} (V : ov_V f_hostWidth f_hostHeight f_root f_focusedPane f_liveCount a_parent a_first a_second a_orientation a_share a_leastWidth a_leastHeight a_rectX a_rectY a_rectW a_rectH a_order a_live a_screenWidth a_screenHeight a_cursorRow a_cursorCol a_regionTop a_regionBottom a_parserMode a_paramOne a_paramTwo a_paramIndex a_cells c kd vl nd en po w0 h0) (K : post 1) : wpL_invariants post (f_hostWidth, f_hostHeight, f_root, f_focusedPane, f_liveCount, a_parent, a_first, a_second, a_orientation, a_share, a_leastWidth, a_leastHeight, a_rectX, a_rectY, a_rectW, a_rectH, a_order, a_live, a_screenWidth, a_screenHeight, a_cursorRow, a_cursorCol, a_regionTop, a_regionBottom, a_parserMode, a_paramOne, a_paramTwo, a_paramIndex, a_cells) := by
  have V0 := V
  obtain ⟨rfl, rfl, lc, G, S⟩ := V
  have a1 := G.2.2.2.1
  have b1 := G.2.2.2.2.1
  have a2 := G.2.2.2.2.2.1
  have b2 := G.2.2.2.2.2.2.1
  have cnt := iv_cnt G
  have hw : h0 * w0 ≤ 12 * 24 := Nat.mul_le_mul b2 b1
  have Bm : ∀ n, n ≤ h0 → iv_B a_live a_rectX a_rectY a_rectW a_rectH w0 n ≤ h0 * w0 := by
    have mono : ∀ d n, n + d = h0 → iv_B a_live a_rectX a_rectY a_rectW a_rectH w0 n ≤ iv_B a_live a_rectX a_rectY a_rectW a_rectH w0 h0 := by
      intro d
      induction d with
      | zero => intro n h; have : n = h0 := by omega
                rw [this]; exact Nat.le_refl _
      | succ d ih =>
        intro n h
        have := ih (n + 1) (by omega)
        unfold iv_B at this ⊢
        rw [sm_s] at this
        omega
    intro n hn
    have := mono (h0 - n) n (by omega)
    omega
  have rows : ∀ dd r, r + dd = h0 → wL_invariants_280 post (nI w0) (nI h0) (nI (iv_A a_live a_rectW a_rectH 8)) (nI w0) (nI h0) f_root f_focusedPane f_liveCount a_parent a_first a_second a_orientation a_share a_leastWidth a_leastHeight a_rectX a_rectY a_rectW a_rectH a_order a_live a_screenWidth a_screenHeight a_cursorRow a_cursorCol a_regionTop a_regionBottom a_parserMode a_paramOne a_paramTwo a_paramIndex a_cells (dd + 1) (nI (iv_B a_live a_rectX a_rectY a_rectW a_rectH w0 r)) (nI r) := by
    intro dd
    induction dd with
    | zero =>
      intro r hr
      have e : r = h0 := by omega
      subst e
      refine br_t (nI_le (Nat.le_refl _) (by omega)) (br_t ?_ K)
      rw [pk_mul, pk_sub (by rw [Nat.mul_comm]; omega)]
      exact congrArg nI (by rw [Nat.mul_comm]; omega)
    | succ dd ih =>
      intro r hr
      have IH := ih (r + 1) (by omega)
      refine br_f (nI_ge (by omega) (by omega)) ?_
      have cols : ∀ ee s, s + ee = w0 → wL_invariants_289 post (wL_invariants_280 post (nI w0) (nI h0) (nI (iv_A a_live a_rectW a_rectH 8)) (nI w0) (nI h0) f_root f_focusedPane f_liveCount a_parent a_first a_second a_orientation a_share a_leastWidth a_leastHeight a_rectX a_rectY a_rectW a_rectH a_order a_live a_screenWidth a_screenHeight a_cursorRow a_cursorCol a_regionTop a_regionBottom a_parserMode a_paramOne a_paramTwo a_paramIndex a_cells (dd + 1)) (nI w0) (nI h0) (nI (iv_A a_live a_rectW a_rectH 8)) (nI r) (nI w0) (nI h0) f_root f_focusedPane f_liveCount a_parent a_first a_second a_orientation a_share a_leastWidth a_leastHeight a_rectX a_rectY a_rectW a_rectH a_order a_live a_screenWidth a_screenHeight a_cursorRow a_cursorCol a_regionTop a_regionBottom a_parserMode a_paramOne a_paramTwo a_paramIndex a_cells (ee + 1) (nI (iv_B a_live a_rectX a_rectY a_rectW a_rectH w0 r + sm_f (fun s => iv_b a_live a_rectX a_rectY a_rectW a_rectH r s) s)) (nI s) := by
        intro ee
        induction ee with
        | zero =>
          intro s hs
          have e : s = w0 := by omega
          subst e
          exact br_t (nI_le (Nat.le_refl _) (by omega)) (nm_r (nI_1 r) IH)
        | succ ee ih2 =>
          intro s hs
          have IH2 := ih2 (s + 1) (by omega)
          rw [sm_s, ← Nat.add_assoc] at IH2
          exact br_f (nI_ge (by omega) (by omega)) (iv_cell V0 (by omega) (by omega) IH2)
      exact ⟨w0 + 1, cols w0 0 (by omega)⟩
  have Am : ∀ n, n ≤ 8 → iv_A a_live a_rectW a_rectH n ≤ h0 * w0 := by
    have mono : ∀ d n, n + d = 8 → iv_A a_live a_rectW a_rectH n ≤ iv_A a_live a_rectW a_rectH 8 := by
      intro d
      induction d with
      | zero => intro n h; have : n = 8 := by omega
                rw [this]; exact Nat.le_refl _
      | succ d ih =>
        intro n h
        have := ih (n + 1) (by omega)
        unfold iv_A at this ⊢
        rw [sm_s] at this
        omega
    intro n hn
    have := mono (8 - n) n (by omega)
    omega
  have main : ∀ dd p, p + dd = 8 → wL_invariants_45 post (nI w0) (nI h0) (nI w0) (nI h0) f_root f_focusedPane f_liveCount a_parent a_first a_second a_orientation a_share a_leastWidth a_leastHeight a_rectX a_rectY a_rectW a_rectH a_order a_live a_screenWidth a_screenHeight a_cursorRow a_cursorCol a_regionTop a_regionBottom a_parserMode a_paramOne a_paramTwo a_paramIndex a_cells (dd + 1) (nI (cc_n (fun g => a_live g ≠ 0) p)) (nI (iv_A a_live a_rectW a_rectH p)) (nI p) := by
    intro dd
    induction dd with
    | zero =>
      intro p hp
      have e : p = 8 := by omega
      subst e
      refine br_t (nI_le (a := 8) (Nat.le_refl _) (by omega)) ?_
      unfold wpX_paneCount
      exact br_t lc.symm ⟨h0 + 1, rows h0 0 (by omega)⟩
    | succ dd ih =>
      intro p hp
      have p8 : p < 8 := by omega
      have IH := ih (p + 1) (by omega)
      refine br_f (nI_ge (b := 8) p8 (by omega)) ?_
      by_cases z : a_live p = 0
      · have e1 : cc_n (fun g => a_live g ≠ 0) (p + 1) = cc_n (fun g => a_live g ≠ 0) p := by rw [cc_s, cc_bf (P := a_live p ≠ 0) (fun y => y z), Nat.add_zero]
        have e2 : iv_A a_live a_rectW a_rectH (p + 1) = iv_A a_live a_rectW a_rectH p := by
          unfold iv_A
          rw [sm_s, if_pos z, Nat.add_zero]
        rw [e1, e2] at IH
        exact xr_dead (iv_dead p8 z) (br_t rfl (nm_r (nI_1 p) IH))
      · have e1 : cc_n (fun g => a_live g ≠ 0) (p + 1) = cc_n (fun g => a_live g ≠ 0) p + 1 := by rw [cc_s, cc_bt (P := a_live p ≠ 0) z]
        have e2 : iv_A a_live a_rectW a_rectH (p + 1) = iv_A a_live a_rectW a_rectH p + vw_n a_rectW p * vw_n a_rectH p := by
          unfold iv_A
          rw [sm_s, if_neg z]
        rw [e1, e2] at IH
        obtain ⟨t1, t2, t3, t4, t5, t6, t7, t8, t9, t10⟩ := vw_sz G p8 z
        refine xr_2 p8 z ?_
        rw [t3]
        refine br_f (tr_m1 (by omega)) (xr_0 p8 z (xr_1 p8 z (xr_3 p8 z ?_)))
        rw [t1, t2, t4, nI_add, nI_add]
        refine br_f (nI_nlt (b := 1) t5 (by omega)) (br_f (nI_nlt (b := 1) t6 (by omega)) (br_f (nI_pos (by omega)) (br_f (nI_pos (by omega)) (br_f (nI_nlt t7 (by omega)) (br_t (nI_le t8 (by omega)) (nm_r (nI_1 _) (nm_r (e' := nI (iv_A a_live a_rectW a_rectH p + vw_n a_rectW p * vw_n a_rectH p)) (by rw [pk_mul, nI_add]) (nm_r (nI_1 p) (iv_pair G p8 z IH)))))))))
  unfold wpL_invariants
  refine br_t rfl (br_f (by decide) (br_t rfl ?_))
  refine br_f (nI_nlt (b := 8) a1 (by omega)) (br_f (nI_nlt (a := 24) b1 (by omega)) (br_f (nI_nlt (b := 4) a2 (by omega)) (br_t (nI_le (b := 12) b2 (by omega)) ⟨9, main 8 0 (by omega)⟩)))
end IW
end
section
section SO
variable {f_hostWidth f_hostHeight f_root f_focusedPane f_liveCount : Int32} {a_parent a_first a_second a_orientation a_share a_leastWidth a_leastHeight a_rectX a_rectY a_rectW a_rectH a_order a_live a_screenWidth a_screenHeight a_cursorRow a_cursorCol a_regionTop a_regionBottom a_parserMode a_paramOne a_paramTwo a_paramIndex a_cells : Nat → Int32} {f_bhostWidth f_bhostHeight f_broot f_bfocusedPane f_bliveCount : Int32} {a_bparent a_bfirst a_bsecond a_borientation a_bshare a_bleastWidth a_bleastHeight a_brectX a_brectY a_brectW a_brectH a_border a_blive a_bscreenWidth a_bscreenHeight a_bcursorRow a_bcursorCol a_bregionTop a_bregionBottom a_bparserMode a_bparamOne a_bparamTwo a_bparamIndex a_bcells : Nat → Int32}
variable {c : Nat} {kd vl : Nat → Int32} {nd nb en po pb : Nat → Nat} {w0 h0 : Nat} {p : Int32}
/-- the second object's rectangles, in the first one's picture -/
theorem so_N {X Y W H mw mh : Nat → Nat} (Ga : rl_G c nd en po w0 h0 f_root a_parent a_first a_second a_orientation a_share a_leastWidth a_leastHeight a_rectX a_rectY a_rectW a_rectH kd vl a_live) (Gb : rl_G c nb en pb w0 h0 f_broot a_bparent a_bfirst a_bsecond a_borientation a_bshare a_bleastWidth a_bleastHeight a_brectX a_brectY a_brectW a_brectH kd vl a_blive) (N : la_N c nd a_leastWidth a_leastHeight a_rectX a_rectY a_rectW a_rectH w0 h0 X Y W H mw mh) : la_N c nb a_bleastWidth a_bleastHeight a_brectX a_brectY a_brectW a_brectH w0 h0 X Y W H mw mh := by
  intro i hi
  obtain ⟨u1, u2, u3, u4, u5, u6⟩ := (pr_un Ga Gb).1 i hi
  have n := N i hi
  rw [← u1, ← u2, ← u3, ← u4, ← u5, ← u6] at n
  exact n
theorem so_vw (RE : ∀ g, g < 8 → a_live g ≠ 0 → a_brectX g = a_rectX g ∧ a_brectY g = a_rectY g ∧ a_brectW g = a_rectW g ∧ a_brectH g = a_rectH g) {g : Nat} (hg : g < 8) (hl : a_live g ≠ 0) : vw_n a_brectX g = vw_n a_rectX g ∧ vw_n a_brectY g = vw_n a_rectY g ∧ vw_n a_brectW g = vw_n a_rectW g ∧ vw_n a_brectH g = vw_n a_rectH g := by
  obtain ⟨r1, r2, r3, r4⟩ := RE g hg hl
  unfold vw_n
  rw [r1, r2, r3, r4]
  exact ⟨rfl, rfl, rfl, rfl⟩
/-- what the host shows at a cell outside pane p's rectangle: the same in both -/
theorem so_hc {P : Int32 → Int32 → Prop} {r s : Nat} (Va : ov_V f_hostWidth f_hostHeight f_root f_focusedPane f_liveCount a_parent a_first a_second a_orientation a_share a_leastWidth a_leastHeight a_rectX a_rectY a_rectW a_rectH a_order a_live a_screenWidth a_screenHeight a_cursorRow a_cursorCol a_regionTop a_regionBottom a_parserMode a_paramOne a_paramTwo a_paramIndex a_cells c kd vl nd en po w0 h0) (Vb : ov_V f_bhostWidth f_bhostHeight f_broot f_bfocusedPane f_bliveCount a_bparent a_bfirst a_bsecond a_borientation a_bshare a_bleastWidth a_bleastHeight a_brectX a_brectY a_brectW a_brectH a_border a_live a_bscreenWidth a_bscreenHeight a_bcursorRow a_bcursorCol a_bregionTop a_bregionBottom a_bparserMode a_bparamOne a_bparamTwo a_bparamIndex a_bcells c kd vl nb en pb w0 h0) (CE : ∀ g, g < 8 → a_live g ≠ 0 → nI g ≠ p → ∀ j, g * 288 ≤ j → j < g * 288 + 288 → a_bcells j = a_cells j) (hr : r < 12) (hs : s < 24) (no : ∀ g, g < 8 → p = nI g → a_live g ≠ 0 → ¬ vw_in a_brectX a_brectY a_brectW a_brectH g r s) (K : ∀ x, P x x) : wpX_hostChar (fun x => wpX_hostChar (fun y => P x y) (f_bhostWidth, f_bhostHeight, f_broot, f_bfocusedPane, f_bliveCount, a_bparent, a_bfirst, a_bsecond, a_borientation, a_bshare, a_bleastWidth, a_bleastHeight, a_brectX, a_brectY, a_brectW, a_brectH, a_border, a_live, a_bscreenWidth, a_bscreenHeight, a_bcursorRow, a_bcursorCol, a_bregionTop, a_bregionBottom, a_bparserMode, a_bparamOne, a_bparamTwo, a_bparamIndex, a_bcells) (nI r) (nI s)) (f_hostWidth, f_hostHeight, f_root, f_focusedPane, f_liveCount, a_parent, a_first, a_second, a_orientation, a_share, a_leastWidth, a_leastHeight, a_rectX, a_rectY, a_rectW, a_rectH, a_order, a_live, a_screenWidth, a_screenHeight, a_cursorRow, a_cursorCol, a_regionTop, a_regionBottom, a_parserMode, a_paramOne, a_paramTwo, a_paramIndex, a_cells) (nI r) (nI s) := by
  have Ga := Va.2.2.2.1
  have Gb := Vb.2.2.2.1
  have RE := pr_live Ga Gb
  have b1 := Ga.2.2.2.2.1
  have b2 := Ga.2.2.2.2.2.2.1
  by_cases o : h0 ≤ r ∨ w0 ≤ s
  · exact xo_hcout Va (by omega) (by omega) o (xo_hcout Vb (by omega) (by omega) o (K 0))
  · by_cases ex : ∃ g, g < 8 ∧ a_live g ≠ 0 ∧ vw_in a_rectX a_rectY a_rectW a_rectH g r s
    · obtain ⟨g, hg, hl, hin⟩ := ex
      obtain ⟨q1, q2, q3, q4⟩ := so_vw RE hg hl
      have hin2 : vw_in a_brectX a_brectY a_brectW a_brectH g r s := by
        unfold vw_in at hin ⊢
        rw [q1, q2, q3, q4]
        exact hin
      have gp : nI g ≠ p := fun e => no g hg e.symm hl hin2
      obtain ⟨s1, s2, s3, s4, s5, s6, s7, s8, s9, s10⟩ := vw_sz Ga hg hl
      have hin3 := hin
      unfold vw_in at hin3
      refine xo_hcin Va hg hl hin (xo_hcin Vb hg hl hin2 ?_)
      rw [q1, q2, CE g hg hl gp _ (by omega) (by omega)]
      exact K _
    · have na : ∀ g, g < 8 → a_live g ≠ 0 → ¬ vw_in a_rectX a_rectY a_rectW a_rectH g r s := fun g hg hl hin => ex ⟨g, hg, hl, hin⟩
      have nb' : ∀ g, g < 8 → a_live g ≠ 0 → ¬ vw_in a_brectX a_brectY a_brectW a_brectH g r s := by
        intro g hg hl hin
        obtain ⟨q1, q2, q3, q4⟩ := so_vw RE hg hl
        refine na g hg hl ?_
        unfold vw_in at hin ⊢
        rw [q1, q2, q3, q4] at hin
        exact hin
      obtain ⟨X, Y, W, H, mw, mh, N, GG⟩ := rl_nat Ga
      obtain ⟨j, jc, bd⟩ := vw_bd Ga N GG (by omega) (by omega) na
      exact xo_hcbd Va N GG (by omega) (by omega) na jc bd (xo_hcbd Vb (so_N Ga Gb N) GG (by omega) (by omega) nb' jc bd (K _))
theorem so_174 {post : Int32 → Prop} {J165 : Int32 → Prop} {r : Nat} (Va : ov_V f_hostWidth f_hostHeight f_root f_focusedPane f_liveCount a_parent a_first a_second a_orientation a_share a_leastWidth a_leastHeight a_rectX a_rectY a_rectW a_rectH a_order a_live a_screenWidth a_screenHeight a_cursorRow a_cursorCol a_regionTop a_regionBottom a_parserMode a_paramOne a_paramTwo a_paramIndex a_cells c kd vl nd en po w0 h0) (Vb : ov_V f_bhostWidth f_bhostHeight f_broot f_bfocusedPane f_bliveCount a_bparent a_bfirst a_bsecond a_borientation a_bshare a_bleastWidth a_bleastHeight a_brectX a_brectY a_brectW a_brectH a_border a_live a_bscreenWidth a_bscreenHeight a_bcursorRow a_bcursorCol a_bregionTop a_bregionBottom a_bparserMode a_bparamOne a_bparamTwo a_bparamIndex a_bcells c kd vl nb en pb w0 h0) (CE : ∀ g, g < 8 → a_live g ≠ 0 → nI g ≠ p → ∀ j, g * 288 ≤ j → j < g * 288 + 288 → a_bcells j = a_cells j) (hr : r < 12) (K : J165 (nI (r + 1))) : ∃ n, wL_sameOutside_174 post J165 p (nI r) f_hostWidth f_hostHeight f_root f_focusedPane f_liveCount a_parent a_first a_second a_orientation a_share a_leastWidth a_leastHeight a_rectX a_rectY a_rectW a_rectH a_order a_live a_screenWidth a_screenHeight a_cursorRow a_cursorCol a_regionTop a_regionBottom a_parserMode a_paramOne a_paramTwo a_paramIndex a_cells f_bhostWidth f_bhostHeight f_broot f_bfocusedPane f_bliveCount a_bparent a_bfirst a_bsecond a_borientation a_bshare a_bleastWidth a_bleastHeight a_brectX a_brectY a_brectW a_brectH a_border a_live a_bscreenWidth a_bscreenHeight a_bcursorRow a_bcursorCol a_bregionTop a_bregionBottom a_bparserMode a_bparamOne a_bparamTwo a_bparamIndex a_bcells n 0 := by
  have main : ∀ dd s, s + dd = 24 → wL_sameOutside_174 post J165 p (nI r) f_hostWidth f_hostHeight f_root f_focusedPane f_liveCount a_parent a_first a_second a_orientation a_share a_leastWidth a_leastHeight a_rectX a_rectY a_rectW a_rectH a_order a_live a_screenWidth a_screenHeight a_cursorRow a_cursorCol a_regionTop a_regionBottom a_parserMode a_paramOne a_paramTwo a_paramIndex a_cells f_bhostWidth f_bhostHeight f_broot f_bfocusedPane f_bliveCount a_bparent a_bfirst a_bsecond a_borientation a_bshare a_bleastWidth a_bleastHeight a_brectX a_brectY a_brectW a_brectH a_border a_live a_bscreenWidth a_bscreenHeight a_bcursorRow a_bcursorCol a_bregionTop a_bregionBottom a_bparserMode a_bparamOne a_bparamTwo a_bparamIndex a_bcells (dd + 1) (nI s) := by
    intro dd
    induction dd with
    | zero =>
      intro s hs
      exact br_t (nI_le (a := 24) (by omega) (by omega)) (nm_r (nI_1 r) K)
    | succ dd ih =>
      intro s hs
      have IH := ih (s + 1) (by omega)
      refine br_f (nI_ge (b := 24) (by omega) (by omega)) (xo_rect Vb (by omega) (by omega) (fun _ _ _ _ _ => br_f (by decide) (nm_r (nI_1 s) IH)) (fun no => br_t rfl ?_))
      exact so_hc Va Vb CE hr (by omega) no (fun x => br_t rfl (nm_r (nI_1 s) IH))
  exact ⟨25, main 24 0 (by omega)⟩
theorem so_165 {post : Int32 → Prop} (Va : ov_V f_hostWidth f_hostHeight f_root f_focusedPane f_liveCount a_parent a_first a_second a_orientation a_share a_leastWidth a_leastHeight a_rectX a_rectY a_rectW a_rectH a_order a_live a_screenWidth a_screenHeight a_cursorRow a_cursorCol a_regionTop a_regionBottom a_parserMode a_paramOne a_paramTwo a_paramIndex a_cells c kd vl nd en po w0 h0) (Vb : ov_V f_bhostWidth f_bhostHeight f_broot f_bfocusedPane f_bliveCount a_bparent a_bfirst a_bsecond a_borientation a_bshare a_bleastWidth a_bleastHeight a_brectX a_brectY a_brectW a_brectH a_border a_live a_bscreenWidth a_bscreenHeight a_bcursorRow a_bcursorCol a_bregionTop a_bregionBottom a_bparserMode a_bparamOne a_bparamTwo a_bparamIndex a_bcells c kd vl nb en pb w0 h0) (CE : ∀ g, g < 8 → a_live g ≠ 0 → nI g ≠ p → ∀ j, g * 288 ≤ j → j < g * 288 + 288 → a_bcells j = a_cells j) (K : post 1) : ∃ n, wL_sameOutside_165 post p f_hostWidth f_hostHeight f_root f_focusedPane f_liveCount a_parent a_first a_second a_orientation a_share a_leastWidth a_leastHeight a_rectX a_rectY a_rectW a_rectH a_order a_live a_screenWidth a_screenHeight a_cursorRow a_cursorCol a_regionTop a_regionBottom a_parserMode a_paramOne a_paramTwo a_paramIndex a_cells f_bhostWidth f_bhostHeight f_broot f_bfocusedPane f_bliveCount a_bparent a_bfirst a_bsecond a_borientation a_bshare a_bleastWidth a_bleastHeight a_brectX a_brectY a_brectW a_brectH a_border a_live a_bscreenWidth a_bscreenHeight a_bcursorRow a_bcursorCol a_bregionTop a_bregionBottom a_bparserMode a_bparamOne a_bparamTwo a_bparamIndex a_bcells n 0 := by
  have main : ∀ dd r, r + dd = 12 → wL_sameOutside_165 post p f_hostWidth f_hostHeight f_root f_focusedPane f_liveCount a_parent a_first a_second a_orientation a_share a_leastWidth a_leastHeight a_rectX a_rectY a_rectW a_rectH a_order a_live a_screenWidth a_screenHeight a_cursorRow a_cursorCol a_regionTop a_regionBottom a_parserMode a_paramOne a_paramTwo a_paramIndex a_cells f_bhostWidth f_bhostHeight f_broot f_bfocusedPane f_bliveCount a_bparent a_bfirst a_bsecond a_borientation a_bshare a_bleastWidth a_bleastHeight a_brectX a_brectY a_brectW a_brectH a_border a_live a_bscreenWidth a_bscreenHeight a_bcursorRow a_bcursorCol a_bregionTop a_bregionBottom a_bparserMode a_bparamOne a_bparamTwo a_bparamIndex a_bcells (dd + 1) (nI r) := by
    intro dd
    induction dd with
    | zero =>
      intro r hr
      exact br_t (nI_le (a := 12) (by omega) (by omega)) K
    | succ dd ih =>
      intro r hr
      exact br_f (nI_ge (b := 12) (by omega) (by omega)) (so_174 Va Vb CE (by omega) (ih (r + 1) (by omega)))
  exact ⟨13, main 12 0 (by omega)⟩
theorem so_108 {post : Int32 → Prop} {J50 J91 : Int32 → Prop} {x5 : Int32} {g w h r : Nat} (hg : g < 8) (hl : a_live g ≠ 0) (w4 : w ≤ 24) (h4 : h ≤ 12) (sw : a_screenWidth g = nI w) (sh : a_screenHeight g = nI h) (bw : a_bscreenWidth g = nI w) (bh : a_bscreenHeight g = nI h) (Ha : ce_H (g * 288) a_cells) (Hb : ce_H (g * 288) a_bcells) (CE : ∀ j, g * 288 ≤ j → j < g * 288 + 288 → a_bcells j = a_cells j) (hr : r < h) (K : J91 (nI (r + 1))) : ∃ n, wL_sameOutside_108 post J50 J91 p (nI g) (nI w) x5 (nI r) f_hostWidth f_hostHeight f_root f_focusedPane f_liveCount a_parent a_first a_second a_orientation a_share a_leastWidth a_leastHeight a_rectX a_rectY a_rectW a_rectH a_order a_live a_screenWidth a_screenHeight a_cursorRow a_cursorCol a_regionTop a_regionBottom a_parserMode a_paramOne a_paramTwo a_paramIndex a_cells f_bhostWidth f_bhostHeight f_broot f_bfocusedPane f_bliveCount a_bparent a_bfirst a_bsecond a_borientation a_bshare a_bleastWidth a_bleastHeight a_brectX a_brectY a_brectW a_brectH a_border a_live a_bscreenWidth a_bscreenHeight a_bcursorRow a_bcursorCol a_bregionTop a_bregionBottom a_bparserMode a_bparamOne a_bparamTwo a_bparamIndex a_bcells n 0 := by
  have main : ∀ dd s, s + dd = w → wL_sameOutside_108 post J50 J91 p (nI g) (nI w) x5 (nI r) f_hostWidth f_hostHeight f_root f_focusedPane f_liveCount a_parent a_first a_second a_orientation a_share a_leastWidth a_leastHeight a_rectX a_rectY a_rectW a_rectH a_order a_live a_screenWidth a_screenHeight a_cursorRow a_cursorCol a_regionTop a_regionBottom a_parserMode a_paramOne a_paramTwo a_paramIndex a_cells f_bhostWidth f_bhostHeight f_broot f_bfocusedPane f_bliveCount a_bparent a_bfirst a_bsecond a_borientation a_bshare a_bleastWidth a_bleastHeight a_brectX a_brectY a_brectW a_brectH a_border a_live a_bscreenWidth a_bscreenHeight a_bcursorRow a_bcursorCol a_bregionTop a_bregionBottom a_bparserMode a_bparamOne a_bparamTwo a_bparamIndex a_bcells (dd + 1) (nI s) := by
    intro dd
    induction dd with
    | zero =>
      intro s hs
      exact br_t (nI_le (by omega) (by omega)) (nm_r (nI_1 r) K)
    | succ dd ih =>
      intro s hs
      have IH := ih (s + 1) (by omega)
      refine br_f (nI_ge (by omega) (by omega)) (br_f (nI_ge (b := 24) (by omega) (by omega)) (xo_pc hg hl sw sh w4 h4 Ha hr (by omega) (xo_pc hg hl bw bh w4 h4 Hb hr (by omega) ?_)))
      rw [CE _ (by omega) (by omega)]
      exact br_t rfl (nm_r (nI_1 s) IH)
  exact ⟨w + 1, main w 0 (by omega)⟩
theorem so_91 {post : Int32 → Prop} {J50 : Int32 → Prop} {g w h : Nat} (hg : g < 8) (hl : a_live g ≠ 0) (w4 : w ≤ 24) (h4 : h ≤ 12) (sw : a_screenWidth g = nI w) (sh : a_screenHeight g = nI h) (bw : a_bscreenWidth g = nI w) (bh : a_bscreenHeight g = nI h) (Ha : ce_H (g * 288) a_cells) (Hb : ce_H (g * 288) a_bcells) (CE : ∀ j, g * 288 ≤ j → j < g * 288 + 288 → a_bcells j = a_cells j) (K : J50 (nI (g + 1))) : ∃ n, wL_sameOutside_91 post J50 p (nI g) (nI w) (nI h) f_hostWidth f_hostHeight f_root f_focusedPane f_liveCount a_parent a_first a_second a_orientation a_share a_leastWidth a_leastHeight a_rectX a_rectY a_rectW a_rectH a_order a_live a_screenWidth a_screenHeight a_cursorRow a_cursorCol a_regionTop a_regionBottom a_parserMode a_paramOne a_paramTwo a_paramIndex a_cells f_bhostWidth f_bhostHeight f_broot f_bfocusedPane f_bliveCount a_bparent a_bfirst a_bsecond a_borientation a_bshare a_bleastWidth a_bleastHeight a_brectX a_brectY a_brectW a_brectH a_border a_live a_bscreenWidth a_bscreenHeight a_bcursorRow a_bcursorCol a_bregionTop a_bregionBottom a_bparserMode a_bparamOne a_bparamTwo a_bparamIndex a_bcells n 0 := by
  have main : ∀ dd r, r + dd = h → wL_sameOutside_91 post J50 p (nI g) (nI w) (nI h) f_hostWidth f_hostHeight f_root f_focusedPane f_liveCount a_parent a_first a_second a_orientation a_share a_leastWidth a_leastHeight a_rectX a_rectY a_rectW a_rectH a_order a_live a_screenWidth a_screenHeight a_cursorRow a_cursorCol a_regionTop a_regionBottom a_parserMode a_paramOne a_paramTwo a_paramIndex a_cells f_bhostWidth f_bhostHeight f_broot f_bfocusedPane f_bliveCount a_bparent a_bfirst a_bsecond a_borientation a_bshare a_bleastWidth a_bleastHeight a_brectX a_brectY a_brectW a_brectH a_border a_live a_bscreenWidth a_bscreenHeight a_bcursorRow a_bcursorCol a_bregionTop a_bregionBottom a_bparserMode a_bparamOne a_bparamTwo a_bparamIndex a_bcells (dd + 1) (nI r) := by
    intro dd
    induction dd with
    | zero =>
      intro r hr
      exact br_t (nI_le (by omega) (by omega)) (nm_r (nI_1 g) K)
    | succ dd ih =>
      intro r hr
      exact br_f (nI_ge (by omega) (by omega)) (br_f (nI_ge (b := 12) (by omega) (by omega)) (so_108 hg hl w4 h4 sw sh bw bh Ha Hb CE (by omega) (ih (r + 1) (by omega))))
  exact ⟨h + 1, main h 0 (by omega)⟩
theorem so_50 {post : Int32 → Prop} (Va : ov_V f_hostWidth f_hostHeight f_root f_focusedPane f_liveCount a_parent a_first a_second a_orientation a_share a_leastWidth a_leastHeight a_rectX a_rectY a_rectW a_rectH a_order a_live a_screenWidth a_screenHeight a_cursorRow a_cursorCol a_regionTop a_regionBottom a_parserMode a_paramOne a_paramTwo a_paramIndex a_cells c kd vl nd en po w0 h0) (Vb : ov_V f_bhostWidth f_bhostHeight f_broot f_bfocusedPane f_bliveCount a_bparent a_bfirst a_bsecond a_borientation a_bshare a_bleastWidth a_bleastHeight a_brectX a_brectY a_brectW a_brectH a_border a_live a_bscreenWidth a_bscreenHeight a_bcursorRow a_bcursorCol a_bregionTop a_bregionBottom a_bparserMode a_bparamOne a_bparamTwo a_bparamIndex a_bcells c kd vl nb en pb w0 h0) (CE : ∀ g, g < 8 → a_live g ≠ 0 → nI g ≠ p → ∀ j, g * 288 ≤ j → j < g * 288 + 288 → a_bcells j = a_cells j) (K : post 1) : ∃ n, wL_sameOutside_50 post p f_hostWidth f_hostHeight f_root f_focusedPane f_liveCount a_parent a_first a_second a_orientation a_share a_leastWidth a_leastHeight a_rectX a_rectY a_rectW a_rectH a_order a_live a_screenWidth a_screenHeight a_cursorRow a_cursorCol a_regionTop a_regionBottom a_parserMode a_paramOne a_paramTwo a_paramIndex a_cells f_bhostWidth f_bhostHeight f_broot f_bfocusedPane f_bliveCount a_bparent a_bfirst a_bsecond a_borientation a_bshare a_bleastWidth a_bleastHeight a_brectX a_brectY a_brectW a_brectH a_border a_live a_bscreenWidth a_bscreenHeight a_bcursorRow a_bcursorCol a_bregionTop a_bregionBottom a_bparserMode a_bparamOne a_bparamTwo a_bparamIndex a_bcells n 0 := by
  have Ga := Va.2.2.2.1
  have Gb := Vb.2.2.2.1
  have RE := pr_live Ga Gb
  have main : ∀ dd g, g + dd = 8 → wL_sameOutside_50 post p f_hostWidth f_hostHeight f_root f_focusedPane f_liveCount a_parent a_first a_second a_orientation a_share a_leastWidth a_leastHeight a_rectX a_rectY a_rectW a_rectH a_order a_live a_screenWidth a_screenHeight a_cursorRow a_cursorCol a_regionTop a_regionBottom a_parserMode a_paramOne a_paramTwo a_paramIndex a_cells f_bhostWidth f_bhostHeight f_broot f_bfocusedPane f_bliveCount a_bparent a_bfirst a_bsecond a_borientation a_bshare a_bleastWidth a_bleastHeight a_brectX a_brectY a_brectW a_brectH a_border a_live a_bscreenWidth a_bscreenHeight a_bcursorRow a_bcursorCol a_bregionTop a_bregionBottom a_bparserMode a_bparamOne a_bparamTwo a_bparamIndex a_bcells (dd + 1) (nI g) := by
    intro dd
    induction dd with
    | zero =>
      intro g hg
      exact br_t (nI_le (a := 8) (by omega) (by omega)) (so_165 Va Vb CE K)
    | succ dd ih =>
      intro g hg
      have g8 : g < 8 := by omega
      have IH := ih (g + 1) (by omega)
      refine br_f (nI_ge (b := 8) (by omega) (by omega)) ?_
      by_cases gp : nI g = p
      · exact br_t gp (nm_r (nI_1 g) IH)
      · refine br_f gp ?_
        by_cases z : a_live g = 0
        · exact xr_dead (iv_dead g8 z) (xr_dead (iv_dead g8 z) (br_f (by decide) (nm_r (nI_1 g) IH)))
        · obtain ⟨t1, t2, t3, t4, t5, t6, t7, t8, t9, t10⟩ := vw_sz Ga g8 z
          obtain ⟨r1, r2, r3, r4⟩ := RE g g8 z
          obtain ⟨c1, c2, c3⟩ := Va.2.2.2.2 g g8 z
          obtain ⟨d1, d2, d3⟩ := Vb.2.2.2.2 g g8 z
          refine xr_2 g8 z (xr_3 g8 z ?_)
          rw [r3, r4, t3, t4]
          exact br_t (nI_pos' (by omega)) (so_91 g8 z (by omega) (by omega) (c1.trans t3) (c2.trans t4) (d1.trans (r3.trans t3)) (d2.trans (r4.trans t4)) c3 d3 (CE g g8 z gp) IH)
  exact ⟨9, main 8 0 (by omega)⟩
theorem so_11 {post : Int32 → Prop} {J2 : Int32 → Prop} {g : Nat} (hg : g < 8) (RE : a_live g ≠ 0 → a_brectX g = a_rectX g ∧ a_brectY g = a_rectY g ∧ a_brectW g = a_rectW g ∧ a_brectH g = a_rectH g) (K : J2 (nI (g + 1))) : ∃ n, wL_sameOutside_11 post J2 p (nI g) f_hostWidth f_hostHeight f_root f_focusedPane f_liveCount a_parent a_first a_second a_orientation a_share a_leastWidth a_leastHeight a_rectX a_rectY a_rectW a_rectH a_order a_live a_screenWidth a_screenHeight a_cursorRow a_cursorCol a_regionTop a_regionBottom a_parserMode a_paramOne a_paramTwo a_paramIndex a_cells f_bhostWidth f_bhostHeight f_broot f_bfocusedPane f_bliveCount a_bparent a_bfirst a_bsecond a_borientation a_bshare a_bleastWidth a_bleastHeight a_brectX a_brectY a_brectW a_brectH a_border a_live a_bscreenWidth a_bscreenHeight a_bcursorRow a_bcursorCol a_bregionTop a_bregionBottom a_bparserMode a_bparamOne a_bparamTwo a_bparamIndex a_bcells n 0 := by
  have e4 : (4 : Int32) ≤ 4 := by decide
  by_cases z : a_live g = 0
  · have D := iv_dead hg z
    exact ⟨5, br_f (by decide) (xr_dead D (xr_dead D (br_t rfl (nm_r (e' := 1) (by decide) (br_f (by decide) (xr_dead D (xr_dead D (br_t rfl (nm_r (e' := 2) (by decide) (br_f (by decide) (xr_dead D (xr_dead D (br_t rfl (nm_r (e' := 3) (by decide) (br_f (by decide) (xr_dead D (xr_dead D (br_t rfl (nm_r (e' := 4) (by decide) (br_t e4 (nm_r (nI_1 g) K)))))))))))))))))))))⟩
  · obtain ⟨r1, r2, r3, r4⟩ := RE z
    exact ⟨5, br_f (by decide) (xr_0 hg z (xr_0 hg z (br_t r1.symm (nm_r (e' := 1) (by decide) (br_f (by decide) (xr_1 hg z (xr_1 hg z (br_t r2.symm (nm_r (e' := 2) (by decide) (br_f (by decide) (xr_2 hg z (xr_2 hg z (br_t r3.symm (nm_r (e' := 3) (by decide) (br_f (by decide) (xr_3 hg z (xr_3 hg z (br_t r4.symm (nm_r (e' := 4) (by decide) (br_t e4 (nm_r (nI_1 g) K)))))))))))))))))))))⟩
/-- the law's look beside the fed pane holds -/
theorem so_all {post : Int32 → Prop} (Va : ov_V f_hostWidth f_hostHeight f_root f_focusedPane f_liveCount a_parent a_first a_second a_orientation a_share a_leastWidth a_leastHeight a_rectX a_rectY a_rectW a_rectH a_order a_live a_screenWidth a_screenHeight a_cursorRow a_cursorCol a_regionTop a_regionBottom a_parserMode a_paramOne a_paramTwo a_paramIndex a_cells c kd vl nd en po w0 h0) (Vb : ov_V f_bhostWidth f_bhostHeight f_broot f_bfocusedPane f_bliveCount a_bparent a_bfirst a_bsecond a_borientation a_bshare a_bleastWidth a_bleastHeight a_brectX a_brectY a_brectW a_brectH a_border a_live a_bscreenWidth a_bscreenHeight a_bcursorRow a_bcursorCol a_bregionTop a_bregionBottom a_bparserMode a_bparamOne a_bparamTwo a_bparamIndex a_bcells c kd vl nb en pb w0 h0) (CE : ∀ g, g < 8 → a_live g ≠ 0 → nI g ≠ p → ∀ j, g * 288 ≤ j → j < g * 288 + 288 → a_bcells j = a_cells j) (K : post 1) : wpL_sameOutside post (f_hostWidth, f_hostHeight, f_root, f_focusedPane, f_liveCount, a_parent, a_first, a_second, a_orientation, a_share, a_leastWidth, a_leastHeight, a_rectX, a_rectY, a_rectW, a_rectH, a_order, a_live, a_screenWidth, a_screenHeight, a_cursorRow, a_cursorCol, a_regionTop, a_regionBottom, a_parserMode, a_paramOne, a_paramTwo, a_paramIndex, a_cells, f_bhostWidth, f_bhostHeight, f_broot, f_bfocusedPane, f_bliveCount, a_bparent, a_bfirst, a_bsecond, a_borientation, a_bshare, a_bleastWidth, a_bleastHeight, a_brectX, a_brectY, a_brectW, a_brectH, a_border, a_live, a_bscreenWidth, a_bscreenHeight, a_bcursorRow, a_bcursorCol, a_bregionTop, a_bregionBottom, a_bparserMode, a_bparamOne, a_bparamTwo, a_bparamIndex, a_bcells) p := by
  have RE := pr_live Va.2.2.2.1 Vb.2.2.2.1
  have main : ∀ dd g, g + dd = 8 → wL_sameOutside_2 post p f_hostWidth f_hostHeight f_root f_focusedPane f_liveCount a_parent a_first a_second a_orientation a_share a_leastWidth a_leastHeight a_rectX a_rectY a_rectW a_rectH a_order a_live a_screenWidth a_screenHeight a_cursorRow a_cursorCol a_regionTop a_regionBottom a_parserMode a_paramOne a_paramTwo a_paramIndex a_cells f_bhostWidth f_bhostHeight f_broot f_bfocusedPane f_bliveCount a_bparent a_bfirst a_bsecond a_borientation a_bshare a_bleastWidth a_bleastHeight a_brectX a_brectY a_brectW a_brectH a_border a_live a_bscreenWidth a_bscreenHeight a_bcursorRow a_bcursorCol a_bregionTop a_bregionBottom a_bparserMode a_bparamOne a_bparamTwo a_bparamIndex a_bcells (dd + 1) (nI g) := by
    intro dd
    induction dd with
    | zero =>
      intro g hg
      exact br_t (nI_le (a := 8) (by omega) (by omega)) (so_50 Va Vb CE K)
    | succ dd ih =>
      intro g hg
      exact br_f (nI_ge (b := 8) (by omega) (by omega)) (so_11 (by omega) (RE g (by omega)) (ih (g + 1) (by omega)))
  exact ⟨9, main 8 0 (by omega)⟩
end SO
end
section
/-- the law's look at both, while the first has been fed -/
def pf_S (u v : St2) (p : Int32) : Prop := match u, v with
  | (f_hostWidth, f_hostHeight, f_root, f_focusedPane, f_liveCount, a_parent, a_first, a_second, a_orientation, a_share, a_leastWidth, a_leastHeight, a_rectX, a_rectY, a_rectW, a_rectH, a_order, a_live, a_screenWidth, a_screenHeight, a_cursorRow, a_cursorCol, a_regionTop, a_regionBottom, a_parserMode, a_paramOne, a_paramTwo, a_paramIndex, a_cells), (f_bhostWidth, f_bhostHeight, f_broot, f_bfocusedPane, f_bliveCount, a_bparent, a_bfirst, a_bsecond, a_borientation, a_bshare, a_bleastWidth, a_bleastHeight, a_brectX, a_brectY, a_brectW, a_brectH, a_border, a_blive, a_bscreenWidth, a_bscreenHeight, a_bcursorRow, a_bcursorCol, a_bregionTop, a_bregionBottom, a_bparserMode, a_bparamOne, a_bparamTwo, a_bparamIndex, a_bcells) => ∀ post : Int32 → Prop, post 1 → wpL_sameOutside post (f_hostWidth, f_hostHeight, f_root, f_focusedPane, f_liveCount, a_parent, a_first, a_second, a_orientation, a_share, a_leastWidth, a_leastHeight, a_rectX, a_rectY, a_rectW, a_rectH, a_order, a_live, a_screenWidth, a_screenHeight, a_cursorRow, a_cursorCol, a_regionTop, a_regionBottom, a_parserMode, a_paramOne, a_paramTwo, a_paramIndex, a_cells, f_bhostWidth, f_bhostHeight, f_broot, f_bfocusedPane, f_bliveCount, a_bparent, a_bfirst, a_bsecond, a_borientation, a_bshare, a_bleastWidth, a_bleastHeight, a_brectX, a_brectY, a_brectW, a_brectH, a_border, a_blive, a_bscreenWidth, a_bscreenHeight, a_bcursorRow, a_bcursorCol, a_bregionTop, a_bregionBottom, a_bparserMode, a_bparamOne, a_bparamTwo, a_bparamIndex, a_bcells) p
section PF
variable {f_hostWidth f_hostHeight f_root f_focusedPane f_liveCount : Int32} {a_parent a_first a_second a_orientation a_share a_leastWidth a_leastHeight a_rectX a_rectY a_rectW a_rectH a_order a_live a_screenWidth a_screenHeight a_cursorRow a_cursorCol a_regionTop a_regionBottom a_parserMode a_paramOne a_paramTwo a_paramIndex a_cells : Nat → Int32} {f_bhostWidth f_bhostHeight f_broot f_bfocusedPane f_bliveCount : Int32} {a_bparent a_bfirst a_bsecond a_borientation a_bshare a_bleastWidth a_bleastHeight a_brectX a_brectY a_brectW a_brectH a_border a_blive a_bscreenWidth a_bscreenHeight a_bcursorRow a_bcursorCol a_bregionTop a_bregionBottom a_bparserMode a_bparamOne a_bparamTwo a_bparamIndex a_bcells : Nat → Int32}
variable {c : Nat} {kd vl : Nat → Int32} {nd nb en po pb : Nat → Nat} {w0 h0 f : Nat}
theorem pf_V (J : pr_J f_hostWidth f_hostHeight f_root f_focusedPane f_liveCount a_parent a_first a_second a_orientation a_share a_leastWidth a_leastHeight a_rectX a_rectY a_rectW a_rectH a_order a_live a_screenWidth a_screenHeight a_cursorRow a_cursorCol a_regionTop a_regionBottom a_parserMode a_paramOne a_paramTwo a_paramIndex a_cells f_bhostWidth f_bhostHeight f_broot f_bfocusedPane f_bliveCount a_bparent a_bfirst a_bsecond a_borientation a_bshare a_bleastWidth a_bleastHeight a_brectX a_brectY a_brectW a_brectH a_border a_blive a_bscreenWidth a_bscreenHeight a_bcursorRow a_bcursorCol a_bregionTop a_bregionBottom a_bparserMode a_bparamOne a_bparamTwo a_bparamIndex a_bcells c kd vl nd nb en po pb w0 h0 f) : ov_V f_hostWidth f_hostHeight f_root f_focusedPane f_liveCount a_parent a_first a_second a_orientation a_share a_leastWidth a_leastHeight a_rectX a_rectY a_rectW a_rectH a_order a_live a_screenWidth a_screenHeight a_cursorRow a_cursorCol a_regionTop a_regionBottom a_parserMode a_paramOne a_paramTwo a_paramIndex a_cells c kd vl nd en po w0 h0 ∧ ov_V f_bhostWidth f_bhostHeight f_broot f_bfocusedPane f_bliveCount a_bparent a_bfirst a_bsecond a_borientation a_bshare a_bleastWidth a_bleastHeight a_brectX a_brectY a_brectW a_brectH a_border a_blive a_bscreenWidth a_bscreenHeight a_bcursorRow a_bcursorCol a_bregionTop a_bregionBottom a_bparserMode a_bparamOne a_bparamTwo a_bparamIndex a_bcells c kd vl nb en pb w0 h0 := by
  obtain ⟨rfl, rfl, rfl, rfl, j5, rfl, rfl, j8, j9, rfl, rfl, rfl, rfl, rfl, rfl, rfl, rfl, rfl, rfl, Ga, Gb, Pn, Sb⟩ := J
  refine ⟨⟨rfl, rfl, j9, Ga, fun g hg hl => ?_⟩, ⟨rfl, rfl, j9, Gb, fun g hg hl => ?_⟩⟩
  · obtain ⟨a1, a2, a3, a4, a5, a6, w, h, b1, b2, b3, b4, b5, b6, q, cr⟩ := Pn g hg hl
    exact ⟨a5, a6, ce_Hx cr⟩
  · obtain ⟨a1, a2, a3, a4, a5, a6, w, h, b1, b2, b3, b4, b5, b6, q, cr⟩ := Pn g hg hl
    obtain ⟨s1, s2⟩ := Sb g hg hl
    exact ⟨s1.trans (a5.trans a3.symm), s2.trans (a6.trans a4.symm), ce_Hy cr⟩
end PF
theorem pf_inv {u v : St2} {post : Int32 → Prop} (R : pr_R u v) (K : post 1) : wpL_invariants post u := by
  obtain ⟨f_hostWidth, f_hostHeight, f_root, f_focusedPane, f_liveCount, a_parent, a_first, a_second, a_orientation, a_share, a_leastWidth, a_leastHeight, a_rectX, a_rectY, a_rectW, a_rectH, a_order, a_live, a_screenWidth, a_screenHeight, a_cursorRow, a_cursorCol, a_regionTop, a_regionBottom, a_parserMode, a_paramOne, a_paramTwo, a_paramIndex, a_cells⟩ := u
  obtain ⟨f_bhostWidth, f_bhostHeight, f_broot, f_bfocusedPane, f_bliveCount, a_bparent, a_bfirst, a_bsecond, a_borientation, a_bshare, a_bleastWidth, a_bleastHeight, a_brectX, a_brectY, a_brectW, a_brectH, a_border, a_blive, a_bscreenWidth, a_bscreenHeight, a_bcursorRow, a_bcursorCol, a_bregionTop, a_bregionBottom, a_bparserMode, a_bparamOne, a_bparamTwo, a_bparamIndex, a_bcells⟩ := v
  obtain ⟨c, kd, vl, nd, nb, en, po, pb, w0, h0, f, J⟩ := R
  exact iv_all (pf_V J).1 K
theorem pf_all {u v : St2} (R : pr_R u v) (p v2 : Int32) : ∃ ra u' v', pr_R u' v' ∧ (∀ post : Int32 → St2 → Prop, post ra u' → wpX_feed post u p v2) ∧ (∀ post : Int32 → St2 → Prop, post ra v' → wpX_feed post v p v2) ∧ pf_S u' v p := by
  obtain ⟨f_hostWidth, f_hostHeight, f_root, f_focusedPane, f_liveCount, a_parent, a_first, a_second, a_orientation, a_share, a_leastWidth, a_leastHeight, a_rectX, a_rectY, a_rectW, a_rectH, a_order, a_live, a_screenWidth, a_screenHeight, a_cursorRow, a_cursorCol, a_regionTop, a_regionBottom, a_parserMode, a_paramOne, a_paramTwo, a_paramIndex, a_cells⟩ := u
  obtain ⟨f_bhostWidth, f_bhostHeight, f_broot, f_bfocusedPane, f_bliveCount, a_bparent, a_bfirst, a_bsecond, a_borientation, a_bshare, a_bleastWidth, a_bleastHeight, a_brectX, a_brectY, a_brectW, a_brectH, a_border, a_blive, a_bscreenWidth, a_bscreenHeight, a_bcursorRow, a_bcursorCol, a_bregionTop, a_bregionBottom, a_bparserMode, a_bparamOne, a_bparamTwo, a_bparamIndex, a_bcells⟩ := v
  obtain ⟨c, kd, vl, nd, nb, en, po, pb, w0, h0, f, J⟩ := R
  have J0 := J
  obtain ⟨Va, Vb⟩ := pf_V J
  obtain ⟨rfl, rfl, rfl, rfl, j5, rfl, rfl, j8, j9, rfl, rfl, rfl, rfl, rfl, rfl, rfl, rfl, rfl, rfl, Ga, Gb, Pn, Sb⟩ := J
  rcases pd_or a_live p with D | ⟨g, hg, e, hl⟩
  · refine ⟨0, (nI w0, nI h0, f_root, nI f, f_liveCount, a_parent, a_first, a_second, a_orientation, a_share, a_leastWidth, a_leastHeight, a_rectX, a_rectY, a_rectW, a_rectH, a_order, a_live, a_screenWidth, a_screenHeight, a_cursorRow, a_cursorCol, a_regionTop, a_regionBottom, a_parserMode, a_paramOne, a_paramTwo, a_paramIndex, a_cells), (nI w0, nI h0, f_broot, nI f, f_liveCount, a_bparent, a_bfirst, a_bsecond, a_borientation, a_bshare, a_bleastWidth, a_bleastHeight, a_brectX, a_brectY, a_brectW, a_brectH, a_border, a_live, a_bscreenWidth, a_bscreenHeight, a_cursorRow, a_cursorCol, a_regionTop, a_regionBottom, a_parserMode, a_paramOne, a_paramTwo, a_paramIndex, a_bcells), ⟨c, kd, vl, nd, nb, en, po, pb, w0, h0, f, J0⟩, fun post K => ?_, fun post K => ?_, fun post K => so_all Va Vb (fun g hg hl _ j j1 j2 => ?_) K⟩
    · unfold wpX_feed
      exact xw_dead D (br_t rfl K)
    · unfold wpX_feed
      exact xw_dead D (br_t rfl K)
    · obtain ⟨a1, a2, a3, a4, a5, a6, w, h, b1, b2, b3, b4, b5, b6, q, cr⟩ := Pn g hg hl
      exact (cr j j1 j2).1.symm
  · subst e
    obtain ⟨a1, a2, a3, a4, a5, a6, w, h, b1, b2, b3, b4, b5, b6, q, cr⟩ := Pn g hg hl
    obtain ⟨s1, s2⟩ := Sb g hg hl
    obtain ⟨R', C', T', B', M', P1', P2', K', fx, oth, q', crx, cox, W⟩ := fo_all hg b4 b6 q v2
    have Pn' : ∀ x, x < 8 → rl_p a_live a_rectX a_rectY a_rectW a_rectH a_screenWidth a_screenHeight a_brectX a_brectY a_brectW a_brectH R' C' T' B' M' P1' P2' K' (fx a_cells) (fx a_bcells) x := by
      intro x hx
      by_cases z : x = g
      · subst z
        intro _
        exact ⟨a1, a2, a3, a4, a5, a6, w, h, b1, b2, b3, b4, b5, b6, q', crx _ _ cr⟩
      · obtain ⟨o1, o2, o3, o4, o5, o6, o7, o8⟩ := oth x z
        exact rl_cg (Pn x hx) id ⟨rfl, rfl⟩ ⟨o1, o2, o3, o4, o5, o6, o7, o8⟩ (fun w h cr => ce_Oo (cox a_cells) (cox a_bcells) (by omega) cr)
    have R2 : pr_R (nI w0, nI h0, f_root, nI f, f_liveCount, a_parent, a_first, a_second, a_orientation, a_share, a_leastWidth, a_leastHeight, a_rectX, a_rectY, a_rectW, a_rectH, a_order, a_live, a_screenWidth, a_screenHeight, R', C', T', B', M', P1', P2', K', fx a_cells) (nI w0, nI h0, f_broot, nI f, f_liveCount, a_bparent, a_bfirst, a_bsecond, a_borientation, a_bshare, a_bleastWidth, a_bleastHeight, a_brectX, a_brectY, a_brectW, a_brectH, a_border, a_live, a_bscreenWidth, a_bscreenHeight, R', C', T', B', M', P1', P2', K', fx a_bcells) :=
      ⟨c, kd, vl, nd, nb, en, po, pb, w0, h0, f, rfl, rfl, rfl, rfl, j5, rfl, rfl, j8, j9, rfl, rfl, rfl, rfl, rfl, rfl, rfl, rfl, rfl, rfl, Ga, Gb, Pn', Sb⟩
    have Va' : ov_V (nI w0) (nI h0) f_root (nI f) f_liveCount a_parent a_first a_second a_orientation a_share a_leastWidth a_leastHeight a_rectX a_rectY a_rectW a_rectH a_order a_live a_screenWidth a_screenHeight R' C' T' B' M' P1' P2' K' (fx a_cells) c kd vl nd en po w0 h0 := by
      refine ⟨rfl, rfl, j9, Ga, fun x hx hlx => ?_⟩
      obtain ⟨c1, c2, c3, c4, c5, c6, w', h', d1, d2, d3, d4, d5, d6, _, cr'⟩ := Pn' x hx hlx
      exact ⟨c5, c6, ce_Hx cr'⟩
    refine ⟨1, _, _, R2, fun post K => W (nI w0) (nI h0) f_root (nI f) f_liveCount a_parent a_first a_second a_orientation a_share a_leastWidth a_leastHeight a_rectX a_rectY a_rectW a_rectH a_order a_live a_screenWidth a_screenHeight a_cursorRow a_cursorCol a_regionTop a_regionBottom a_parserMode a_paramOne a_paramTwo a_paramIndex a_cells hl (a5.trans b1) (a6.trans b2) (ce_Hx cr) post K, fun post K => W (nI w0) (nI h0) f_broot (nI f) f_liveCount a_bparent a_bfirst a_bsecond a_borientation a_bshare a_bleastWidth a_bleastHeight a_brectX a_brectY a_brectW a_brectH a_border a_live a_bscreenWidth a_bscreenHeight a_cursorRow a_cursorCol a_regionTop a_regionBottom a_parserMode a_paramOne a_paramTwo a_paramIndex a_bcells hl (s1.trans (a5.trans b1)) (s2.trans (a6.trans b2)) (ce_Hy cr) post K, fun post K => so_all Va' Vb (fun x hx hlx hne j j1 j2 => ?_) K⟩
    have z : x ≠ g := fun e => hne (by rw [e])
    obtain ⟨c1, c2, c3, c4, c5, c6, w', h', d1, d2, d3, d4, d5, d6, _, cr'⟩ := Pn x hx hlx
    rw [cox a_cells j (by omega)]
    exact (cr' j j1 j2).1.symm
end
section
theorem pi_G {w0 h0 : Nat} {lw lh rx ry rw rh : Nat → Int32} (x1 : 8 ≤ w0) (x2 : w0 ≤ 24) (y1 : 4 ≤ h0) (y2 : h0 ≤ 12) : la_L 1 (fun _ => 0) (fun _ => 0) (fun _ => 1) lw lh → la_E 1 (fun _ => 0) (fun _ => 0) (fun _ => 0) (fun _ => 1) lw lh rx ry rw rh (nI w0) (nI h0) → rl_G 1 (fun _ => 0) (fun _ => 1) (fun _ => 0) w0 h0 0 (upd (fun _ => 0) 0 (-1)) (fun _ => 0) (fun _ => 0) (fun _ => 0) (fun _ => 0) lw lh rx ry rw rh (fun _ => 0) (fun _ => 0) (upd (fun _ => 0) 0 1) := by
  intro L E
  have l0 := (L 0 (by omega)).1 rfl
  try dsimp only at l0
  exact ⟨in_T, L, E, x1, x2, y1, y2, rl_ex ⟨1, l0.1, by omega⟩ x2, rl_ex ⟨1, l0.2, by omega⟩ (by omega), in_V⟩
theorem xi_init {post : St2 → Prop} {k0 k1 : Int32} {w0 h0 : Nat} (ew : la_cl k0 8 24 = nI w0) (eh : la_cl k1 4 12 = nI h0) (y1 : 4 ≤ h0) (K : ∀ lw lh rx ry rw rh ord : Nat → Int32, la_L 1 (fun _ => 0) (fun _ => 0) (fun _ => 1) lw lh → la_E 1 (fun _ => 0) (fun _ => 0) (fun _ => 0) (fun _ => 1) lw lh rx ry rw rh (nI w0) (nI h0) → post (nI w0, nI h0, 0, 0, 0 + 1, upd (fun _ => 0) 0 (-1), (fun _ => 0), (fun _ => 0), (fun _ => 0), (fun _ => 0), lw, lh, rx, ry, rw, rh, ord, upd (fun _ => 0) 0 1, upd (fun _ => 0) 0 (nI w0), upd (fun _ => 0) 0 (nI h0), upd (fun _ => 0) 0 0, upd (fun _ => 0) 0 0, upd (fun _ => 0) 0 0, upd (fun _ => 0) 0 (nI (h0 - 1)), upd (fun _ => 0) 0 0, upd (fun _ => 0) 0 0, upd (fun _ => 0) 0 0, upd (fun _ => 0) 0 0, ce_w (ce_q (0 * 288) 0 0 12 24) (fun _ => 0))) : wpX_init post 24 2572 (0, 0, 0, 0, 0) k0 k1 := by
  unfold wpX_init
  refine ⟨by omega, by omega, by omega, by omega, by omega, by omega, by omega, by omega, by omega, by omega, by omega, by omega, by omega, by omega, by omega, by omega, by omega, by omega, by omega, by omega, by omega, by omega, by omega, by omega, by omega, by omega, by omega, by omega, by omega, by omega, by omega, by omega, by omega, by omega, by omega, by omega, by omega, by omega, by omega, by omega, by omega, by omega, by omega, by omega, by omega, by omega, by omega, by omega, ?_⟩
  refine xw_clamp ?_
  rw [ew]
  refine xw_clamp ?_
  rw [eh]
  refine nm_e (xw_layOut in_T (fun lw lh rx ry rw rh ord L E => xw_start (g := 0) (by omega) ?_))
  obtain ⟨E1, E2, E3, E4, E5⟩ := id E
  try dsimp only at E1 E2 E3 E4
  rw [E3, E4, la_sub1 (by omega)]
  exact K lw lh rx ry rw rh ord L E
theorem pi_R {w0 h0 : Nat} {lw lh rx ry rw rh ord lw' lh' rx' ry' rw' rh' ord' : Nat → Int32} (x1 : 8 ≤ w0) (x2 : w0 ≤ 24) (y1 : 4 ≤ h0) (y2 : h0 ≤ 12) : la_L 1 (fun _ => 0) (fun _ => 0) (fun _ => 1) lw lh → la_E 1 (fun _ => 0) (fun _ => 0) (fun _ => 0) (fun _ => 1) lw lh rx ry rw rh (nI w0) (nI h0) → la_L 1 (fun _ => 0) (fun _ => 0) (fun _ => 1) lw' lh' → la_E 1 (fun _ => 0) (fun _ => 0) (fun _ => 0) (fun _ => 1) lw' lh' rx' ry' rw' rh' (nI w0) (nI h0) → pr_R (nI w0, nI h0, 0, 0, 0 + 1, upd (fun _ => 0) 0 (-1), (fun _ => 0), (fun _ => 0), (fun _ => 0), (fun _ => 0), lw, lh, rx, ry, rw, rh, ord, upd (fun _ => 0) 0 1, upd (fun _ => 0) 0 (nI w0), upd (fun _ => 0) 0 (nI h0), upd (fun _ => 0) 0 0, upd (fun _ => 0) 0 0, upd (fun _ => 0) 0 0, upd (fun _ => 0) 0 (nI (h0 - 1)), upd (fun _ => 0) 0 0, upd (fun _ => 0) 0 0, upd (fun _ => 0) 0 0, upd (fun _ => 0) 0 0, ce_w (ce_q (0 * 288) 0 0 12 24) (fun _ => 0)) (nI w0, nI h0, 0, 0, 0 + 1, upd (fun _ => 0) 0 (-1), (fun _ => 0), (fun _ => 0), (fun _ => 0), (fun _ => 0), lw', lh', rx', ry', rw', rh', ord', upd (fun _ => 0) 0 1, upd (fun _ => 0) 0 (nI w0), upd (fun _ => 0) 0 (nI h0), upd (fun _ => 0) 0 0, upd (fun _ => 0) 0 0, upd (fun _ => 0) 0 0, upd (fun _ => 0) 0 (nI (h0 - 1)), upd (fun _ => 0) 0 0, upd (fun _ => 0) 0 0, upd (fun _ => 0) 0 0, upd (fun _ => 0) 0 0, ce_w (ce_q (0 * 288) 0 0 12 24) (fun _ => 0)) := by
  intro L E L' E'
  obtain ⟨E1, E2, E3, E4, E5⟩ := id E
  obtain ⟨F1, F2, F3, F4, F5⟩ := id E'
  try dsimp only at E1 E2 E3 E4
  try dsimp only at F1 F2 F3 F4
  have cnt : cc_n (fun g => upd (fun _ => (0 : Int32)) 0 1 g ≠ 0) 8 = 1 := by
    have := lv_c in_T in_V
    omega
  have g0 : ∀ g : Nat, upd (fun _ => (0 : Int32)) 0 1 g ≠ 0 → g = 0 := by
    intro g hl
    by_cases z : g = 0
    · exact z
    · rw [pk_un z] at hl
      exact absurd rfl hl
  refine ⟨1, (fun _ => 0), (fun _ => 0), (fun _ => 0), (fun _ => 0), (fun _ => 1), (fun _ => 0), (fun _ => 0), w0, h0, 0, rfl, rfl, rfl, rfl, by omega, rfl, rfl, by rw [pk_us]; decide, by rw [cnt]; rfl, rfl, rfl, rfl, rfl, rfl, rfl, rfl, rfl, rfl, rfl, pi_G x1 x2 y1 y2 L E, pi_G x1 x2 y1 y2 L' E', ?_, ?_⟩
  · intro g hg hl
    have z := g0 g hl
    subst z
    exact ⟨F1.trans E1.symm, F2.trans E2.symm, F3.trans E3.symm, F4.trans E4.symm, pk_us.trans E3.symm, pk_us.trans E4.symm, w0, h0, E3, E4, by omega, x2, by omega, y2, ⟨0, 0, 0, h0 - 1, 0, 0, 0, 0, rfl, by omega, rfl, by omega, rfl, pk_us, by omega, by omega, rfl, by omega, rfl, by omega, rfl, by omega, rfl, by omega⟩, fi_new⟩
  · intro g hg hl
    have z := g0 g hl
    subst z
    exact ⟨rfl, rfl⟩
end
section
abbrev lw_T : Type := Int32 → Int32 → Int32 → Int32 → Int32 → Int32 → (Nat → Int32) → (Nat → Int32) → (Nat → Int32) → (Nat → Int32) → (Nat → Int32) → (Nat → Int32) → (Nat → Int32) → (Nat → Int32) → (Nat → Int32) → (Nat → Int32) → (Nat → Int32) → (Nat → Int32) → (Nat → Int32) → (Nat → Int32) → (Nat → Int32) → (Nat → Int32) → (Nat → Int32) → (Nat → Int32) → (Nat → Int32) → (Nat → Int32) → (Nat → Int32) → (Nat → Int32) → (Nat → Int32) → (Nat → Int32) → Int32 → Int32 → Int32 → Int32 → Int32 → (Nat → Int32) → (Nat → Int32) → (Nat → Int32) → (Nat → Int32) → (Nat → Int32) → (Nat → Int32) → (Nat → Int32) → (Nat → Int32) → (Nat → Int32) → (Nat → Int32) → (Nat → Int32) → (Nat → Int32) → (Nat → Int32) → (Nat → Int32) → (Nat → Int32) → (Nat → Int32) → (Nat → Int32) → (Nat → Int32) → (Nat → Int32) → (Nat → Int32) → (Nat → Int32) → (Nat → Int32) → (Nat → Int32) → (Nat → Int32) → Prop
def lw_J (J : lw_T) (x : Int32) (u v : St2) : Prop := match u, v with
  | (f_hostWidth, f_hostHeight, f_root, f_focusedPane, f_liveCount, a_parent, a_first, a_second, a_orientation, a_share, a_leastWidth, a_leastHeight, a_rectX, a_rectY, a_rectW, a_rectH, a_order, a_live, a_screenWidth, a_screenHeight, a_cursorRow, a_cursorCol, a_regionTop, a_regionBottom, a_parserMode, a_paramOne, a_paramTwo, a_paramIndex, a_cells), (f_bhostWidth, f_bhostHeight, f_broot, f_bfocusedPane, f_bliveCount, a_bparent, a_bfirst, a_bsecond, a_borientation, a_bshare, a_bleastWidth, a_bleastHeight, a_brectX, a_brectY, a_brectW, a_brectH, a_border, a_blive, a_bscreenWidth, a_bscreenHeight, a_bcursorRow, a_bcursorCol, a_bregionTop, a_bregionBottom, a_bparserMode, a_bparamOne, a_bparamTwo, a_bparamIndex, a_bcells) => J x f_hostWidth f_hostHeight f_root f_focusedPane f_liveCount a_parent a_first a_second a_orientation a_share a_leastWidth a_leastHeight a_rectX a_rectY a_rectW a_rectH a_order a_live a_screenWidth a_screenHeight a_cursorRow a_cursorCol a_regionTop a_regionBottom a_parserMode a_paramOne a_paramTwo a_paramIndex a_cells f_bhostWidth f_bhostHeight f_broot f_bfocusedPane f_bliveCount a_bparent a_bfirst a_bsecond a_borientation a_bshare a_bleastWidth a_bleastHeight a_brectX a_brectY a_brectW a_brectH a_border a_blive a_bscreenWidth a_bscreenHeight a_bcursorRow a_bcursorCol a_bregionTop a_bregionBottom a_bparserMode a_bparamOne a_bparamTwo a_bparamIndex a_bcells
theorem lw_cell {post : Int32 → Prop} {L k : Nat} {xs : Nat → Int32} {x : Int32} (e : x = nI k) (hL : L < 2 ^ 31) (hk : k < 2 ^ 31) (K : ∀ y, post y) : wpL_cell post L xs () x := by
  subst e
  exact pk_le L k (fun _ => K _) (fun z => ⟨vp_in_nI z hL, K _⟩)
theorem lw_fin {post : Int32 → Prop} {b : Int32} (K : ∀ y, post y) : wpL_finalOf post () b :=
  ⟨by decide, fun k _ => ⟨fun _ => K _, fun _ => ⟨fun _ => K _, fun _ => ⟨fun _ => K _, fun _ => ⟨fun _ => K _, fun _ => ⟨fun _ => K _, fun _ => ⟨fun _ => K _, fun _ => ⟨fun _ => K _, fun _ => ⟨fun _ => K _, fun _ => ⟨fun _ => K _, fun _ => ⟨fun _ => K _, fun _ => trivial⟩⟩⟩⟩⟩⟩⟩⟩⟩⟩⟩
theorem lw_byte {post : Int32 → Prop} {b : Int32} (K : ∀ y, post y) : wpL_byteOf post () b :=
  ⟨by decide, fun x1 _ x2 _ => ⟨fun _ => ⟨by decide, K _⟩, fun _ => ⟨fun _ => ⟨by decide, K _⟩, fun _ => ⟨fun _ => K _, fun _ => ⟨fun _ => K _, fun _ => ⟨fun _ => K _, fun _ => ⟨fun _ => K _, fun _ => ⟨fun _ => K _, fun _ => ⟨fun _ => K _, fun _ => ⟨fun _ => K _, fun _ => ⟨fun _ => K _, fun _ => ⟨fun _ => ⟨by decide, K _⟩, fun _ => ⟨fun _ => ⟨by decide, K _⟩, fun _ => ⟨fun _ => lw_fin K, fun _ => ⟨fun _ => lw_fin K, fun _ => ⟨fun _ => K _, fun _ => trivial⟩⟩⟩⟩⟩⟩⟩⟩⟩⟩⟩⟩⟩⟩⟩⟩
section LW
variable {f_hostWidth f_hostHeight f_root f_focusedPane f_liveCount : Int32} {a_parent a_first a_second a_orientation a_share a_leastWidth a_leastHeight a_rectX a_rectY a_rectW a_rectH a_order a_live a_screenWidth a_screenHeight a_cursorRow a_cursorCol a_regionTop a_regionBottom a_parserMode a_paramOne a_paramTwo a_paramIndex a_cells : Nat → Int32} {f_bhostWidth f_bhostHeight f_broot f_bfocusedPane f_bliveCount : Int32} {a_bparent a_bfirst a_bsecond a_borientation a_bshare a_bleastWidth a_bleastHeight a_brectX a_brectY a_brectW a_brectH a_border a_blive a_bscreenWidth a_bscreenHeight a_bcursorRow a_bcursorCol a_bregionTop a_bregionBottom a_bparserMode a_bparamOne a_bparamTwo a_bparamIndex a_bcells : Nat → Int32}
variable {post : Int32 → Prop} {L i kc ks : Nat} {xs : Nat → Int32} {J : lw_T}
theorem lw_347 (R : pr_R (f_hostWidth, f_hostHeight, f_root, f_focusedPane, f_liveCount, a_parent, a_first, a_second, a_orientation, a_share, a_leastWidth, a_leastHeight, a_rectX, a_rectY, a_rectW, a_rectH, a_order, a_live, a_screenWidth, a_screenHeight, a_cursorRow, a_cursorCol, a_regionTop, a_regionBottom, a_parserMode, a_paramOne, a_paramTwo, a_paramIndex, a_cells) (f_bhostWidth, f_bhostHeight, f_broot, f_bfocusedPane, f_bliveCount, a_bparent, a_bfirst, a_bsecond, a_borientation, a_bshare, a_bleastWidth, a_bleastHeight, a_brectX, a_brectY, a_brectW, a_brectH, a_border, a_blive, a_bscreenWidth, a_bscreenHeight, a_bcursorRow, a_bcursorCol, a_bregionTop, a_bregionBottom, a_bparserMode, a_bparamOne, a_bparamTwo, a_bparamIndex, a_bcells)) (K : lw_J J (nI (i + 3)) (f_hostWidth, f_hostHeight, f_root, f_focusedPane, f_liveCount, a_parent, a_first, a_second, a_orientation, a_share, a_leastWidth, a_leastHeight, a_rectX, a_rectY, a_rectW, a_rectH, a_order, a_live, a_screenWidth, a_screenHeight, a_cursorRow, a_cursorCol, a_regionTop, a_regionBottom, a_parserMode, a_paramOne, a_paramTwo, a_paramIndex, a_cells) (f_bhostWidth, f_bhostHeight, f_broot, f_bfocusedPane, f_bliveCount, a_bparent, a_bfirst, a_bsecond, a_borientation, a_bshare, a_bleastWidth, a_bleastHeight, a_brectX, a_brectY, a_brectW, a_brectH, a_border, a_blive, a_bscreenWidth, a_bscreenHeight, a_bcursorRow, a_bcursorCol, a_bregionTop, a_bregionBottom, a_bparserMode, a_bparamOne, a_bparamTwo, a_bparamIndex, a_bcells)) : wL_law_347 post L xs J (nI i) kc ks f_hostWidth f_hostHeight f_root f_focusedPane f_liveCount a_parent a_first a_second a_orientation a_share a_leastWidth a_leastHeight a_rectX a_rectY a_rectW a_rectH a_order a_live a_screenWidth a_screenHeight a_cursorRow a_cursorCol a_regionTop a_regionBottom a_parserMode a_paramOne a_paramTwo a_paramIndex a_cells f_bhostWidth f_bhostHeight f_broot f_bfocusedPane f_bliveCount a_bparent a_bfirst a_bsecond a_borientation a_bshare a_bleastWidth a_bleastHeight a_brectX a_brectY a_brectW a_brectH a_border a_blive a_bscreenWidth a_bscreenHeight a_bcursorRow a_bcursorCol a_bregionTop a_bregionBottom a_bparserMode a_bparamOne a_bparamTwo a_bparamIndex a_bcells := by
  unfold wL_law_347
  exact pf_inv R (br_f (by decide) (nm_r (nI_add i 3) K))
theorem lw_117 {z : Int32} (R : pr_R (f_hostWidth, f_hostHeight, f_root, f_focusedPane, f_liveCount, a_parent, a_first, a_second, a_orientation, a_share, a_leastWidth, a_leastHeight, a_rectX, a_rectY, a_rectW, a_rectH, a_order, a_live, a_screenWidth, a_screenHeight, a_cursorRow, a_cursorCol, a_regionTop, a_regionBottom, a_parserMode, a_paramOne, a_paramTwo, a_paramIndex, a_cells) (f_bhostWidth, f_bhostHeight, f_broot, f_bfocusedPane, f_bliveCount, a_bparent, a_bfirst, a_bsecond, a_borientation, a_bshare, a_bleastWidth, a_bleastHeight, a_brectX, a_brectY, a_brectW, a_brectH, a_border, a_blive, a_bscreenWidth, a_bscreenHeight, a_bcursorRow, a_bcursorCol, a_bregionTop, a_bregionBottom, a_bparserMode, a_bparamOne, a_bparamTwo, a_bparamIndex, a_bcells)) (K : ∀ u' v', pr_R u' v' → lw_J J (nI (i + 3)) u' v') : wL_law_117 post L xs J (nI i) z kc ks f_hostWidth f_hostHeight f_root f_focusedPane f_liveCount a_parent a_first a_second a_orientation a_share a_leastWidth a_leastHeight a_rectX a_rectY a_rectW a_rectH a_order a_live a_screenWidth a_screenHeight a_cursorRow a_cursorCol a_regionTop a_regionBottom a_parserMode a_paramOne a_paramTwo a_paramIndex a_cells f_bhostWidth f_bhostHeight f_broot f_bfocusedPane f_bliveCount a_bparent a_bfirst a_bsecond a_borientation a_bshare a_bleastWidth a_bleastHeight a_brectX a_brectY a_brectW a_brectH a_border a_blive a_bscreenWidth a_bscreenHeight a_bcursorRow a_bcursorCol a_bregionTop a_bregionBottom a_bparserMode a_bparamOne a_bparamTwo a_bparamIndex a_bcells := by
  unfold wL_law_117
  exact pr_split _ R (fun r u' hh => by
        obtain ⟨f_hostWidth, f_hostHeight, f_root, f_focusedPane, f_liveCount, a_parent, a_first, a_second, a_orientation, a_share, a_leastWidth, a_leastHeight, a_rectX, a_rectY, a_rectW, a_rectH, a_order, a_live, a_screenWidth, a_screenHeight, a_cursorRow, a_cursorCol, a_regionTop, a_regionBottom, a_parserMode, a_paramOne, a_paramTwo, a_paramIndex, a_cells⟩ := u'
        exact hh _ (fun r' v' R' => by
          obtain ⟨f_bhostWidth, f_bhostHeight, f_broot, f_bfocusedPane, f_bliveCount, a_bparent, a_bfirst, a_bsecond, a_borientation, a_bshare, a_bleastWidth, a_bleastHeight, a_brectX, a_brectY, a_brectW, a_brectH, a_border, a_blive, a_bscreenWidth, a_bscreenHeight, a_bcursorRow, a_bcursorCol, a_bregionTop, a_bregionBottom, a_bparserMode, a_bparamOne, a_bparamTwo, a_bparamIndex, a_bcells⟩ := v'
          exact lw_347 R' (K _ _ R')))
theorem lw_51 {n : Nat} (hL : L < 2 ^ 30) (h : i < L) (R : pr_R (f_hostWidth, f_hostHeight, f_root, f_focusedPane, f_liveCount, a_parent, a_first, a_second, a_orientation, a_share, a_leastWidth, a_leastHeight, a_rectX, a_rectY, a_rectW, a_rectH, a_order, a_live, a_screenWidth, a_screenHeight, a_cursorRow, a_cursorCol, a_regionTop, a_regionBottom, a_parserMode, a_paramOne, a_paramTwo, a_paramIndex, a_cells) (f_bhostWidth, f_bhostHeight, f_broot, f_bfocusedPane, f_bliveCount, a_bparent, a_bfirst, a_bsecond, a_borientation, a_bshare, a_bleastWidth, a_bleastHeight, a_brectX, a_brectY, a_brectW, a_brectH, a_border, a_blive, a_bscreenWidth, a_bscreenHeight, a_bcursorRow, a_bcursorCol, a_bregionTop, a_bregionBottom, a_bparserMode, a_bparamOne, a_bparamTwo, a_bparamIndex, a_bcells)) (K : ∀ u' v', pr_R u' v' → lw_J (wL_law_51 post L xs kc ks n) (nI (i + 3)) u' v') : wL_law_51 post L xs kc ks (n + 1) (nI i) f_hostWidth f_hostHeight f_root f_focusedPane f_liveCount a_parent a_first a_second a_orientation a_share a_leastWidth a_leastHeight a_rectX a_rectY a_rectW a_rectH a_order a_live a_screenWidth a_screenHeight a_cursorRow a_cursorCol a_regionTop a_regionBottom a_parserMode a_paramOne a_paramTwo a_paramIndex a_cells f_bhostWidth f_bhostHeight f_broot f_bfocusedPane f_bliveCount a_bparent a_bfirst a_bsecond a_borientation a_bshare a_bleastWidth a_bleastHeight a_brectX a_brectY a_brectW a_brectH a_border a_blive a_bscreenWidth a_bscreenHeight a_bcursorRow a_bcursorCol a_bregionTop a_bregionBottom a_bparserMode a_bparamOne a_bparamTwo a_bparamIndex a_bcells := by
  refine br_f (nI_ge h (by omega)) (lw_cell rfl (by omega) (by omega) (fun r => ⟨by decide, fun x6 _ => lw_cell (nI_add i 1) (by omega) (by omega) (fun rx => lw_cell (nI_add i 2) (by omega) (by omega) (fun ry => ⟨fun _ => ⟨fun _ => ?_, fun _ => ⟨fun _ => ⟨by decide, ?_⟩, fun _ => ⟨fun _ => ?_, fun _ => ⟨fun _ => ⟨by decide, ?_⟩, fun _ => ⟨fun _ => ⟨by decide, by decide, ?_⟩, fun _ => ⟨by decide, fun x9 _ => lw_byte (fun bt => ?_)⟩⟩⟩⟩⟩⟩, fun _ => ⟨by decide, ⟨fun _ => lw_117 R K, fun _ => lw_117 R K⟩⟩⟩))⟩))
  · exact pr_close R (fun r u' hh => by
        obtain ⟨f_hostWidth, f_hostHeight, f_root, f_focusedPane, f_liveCount, a_parent, a_first, a_second, a_orientation, a_share, a_leastWidth, a_leastHeight, a_rectX, a_rectY, a_rectW, a_rectH, a_order, a_live, a_screenWidth, a_screenHeight, a_cursorRow, a_cursorCol, a_regionTop, a_regionBottom, a_parserMode, a_paramOne, a_paramTwo, a_paramIndex, a_cells⟩ := u'
        exact hh _ (fun r' v' R' => by
          obtain ⟨f_bhostWidth, f_bhostHeight, f_broot, f_bfocusedPane, f_bliveCount, a_bparent, a_bfirst, a_bsecond, a_borientation, a_bshare, a_bleastWidth, a_bleastHeight, a_brectX, a_brectY, a_brectW, a_brectH, a_border, a_blive, a_bscreenWidth, a_bscreenHeight, a_bcursorRow, a_bcursorCol, a_bregionTop, a_bregionBottom, a_bparserMode, a_bparamOne, a_bparamTwo, a_bparamIndex, a_bcells⟩ := v'
          exact lw_347 R' (K _ _ R')))
  · exact pr_focus _ R (fun r u' hh => by
        obtain ⟨f_hostWidth, f_hostHeight, f_root, f_focusedPane, f_liveCount, a_parent, a_first, a_second, a_orientation, a_share, a_leastWidth, a_leastHeight, a_rectX, a_rectY, a_rectW, a_rectH, a_order, a_live, a_screenWidth, a_screenHeight, a_cursorRow, a_cursorCol, a_regionTop, a_regionBottom, a_parserMode, a_paramOne, a_paramTwo, a_paramIndex, a_cells⟩ := u'
        exact ⟨by decide, hh _ (fun r' v' R' => by
          obtain ⟨f_bhostWidth, f_bhostHeight, f_broot, f_bfocusedPane, f_bliveCount, a_bparent, a_bfirst, a_bsecond, a_borientation, a_bshare, a_bleastWidth, a_bleastHeight, a_brectX, a_brectY, a_brectW, a_brectH, a_border, a_blive, a_bscreenWidth, a_bscreenHeight, a_bcursorRow, a_bcursorCol, a_bregionTop, a_bregionBottom, a_bparserMode, a_bparamOne, a_bparamTwo, a_bparamIndex, a_bcells⟩ := v'
          exact lw_347 R' (K _ _ R'))⟩)
  · exact pr_next R (fun r u' hh => by
        obtain ⟨f_hostWidth, f_hostHeight, f_root, f_focusedPane, f_liveCount, a_parent, a_first, a_second, a_orientation, a_share, a_leastWidth, a_leastHeight, a_rectX, a_rectY, a_rectW, a_rectH, a_order, a_live, a_screenWidth, a_screenHeight, a_cursorRow, a_cursorCol, a_regionTop, a_regionBottom, a_parserMode, a_paramOne, a_paramTwo, a_paramIndex, a_cells⟩ := u'
        exact hh _ (fun r' v' R' => by
          obtain ⟨f_bhostWidth, f_bhostHeight, f_broot, f_bfocusedPane, f_bliveCount, a_bparent, a_bfirst, a_bsecond, a_borientation, a_bshare, a_bleastWidth, a_bleastHeight, a_brectX, a_brectY, a_brectW, a_brectH, a_border, a_blive, a_bscreenWidth, a_bscreenHeight, a_bcursorRow, a_bcursorCol, a_bregionTop, a_bregionBottom, a_bparserMode, a_bparamOne, a_bparamTwo, a_bparamIndex, a_bcells⟩ := v'
          exact lw_347 R' (K _ _ R')))
  · exact pr_share _ _ R (fun r u' hh => by
        obtain ⟨f_hostWidth, f_hostHeight, f_root, f_focusedPane, f_liveCount, a_parent, a_first, a_second, a_orientation, a_share, a_leastWidth, a_leastHeight, a_rectX, a_rectY, a_rectW, a_rectH, a_order, a_live, a_screenWidth, a_screenHeight, a_cursorRow, a_cursorCol, a_regionTop, a_regionBottom, a_parserMode, a_paramOne, a_paramTwo, a_paramIndex, a_cells⟩ := u'
        exact ⟨by decide, hh _ (fun r' v' R' => by
          obtain ⟨f_bhostWidth, f_bhostHeight, f_broot, f_bfocusedPane, f_bliveCount, a_bparent, a_bfirst, a_bsecond, a_borientation, a_bshare, a_bleastWidth, a_bleastHeight, a_brectX, a_brectY, a_brectW, a_brectH, a_border, a_blive, a_bscreenWidth, a_bscreenHeight, a_bcursorRow, a_bcursorCol, a_bregionTop, a_bregionBottom, a_bparserMode, a_bparamOne, a_bparamTwo, a_bparamIndex, a_bcells⟩ := v'
          exact lw_347 R' (K _ _ R'))⟩)
  · exact pr_resize _ _ R (fun r u' hh => by
        obtain ⟨f_hostWidth, f_hostHeight, f_root, f_focusedPane, f_liveCount, a_parent, a_first, a_second, a_orientation, a_share, a_leastWidth, a_leastHeight, a_rectX, a_rectY, a_rectW, a_rectH, a_order, a_live, a_screenWidth, a_screenHeight, a_cursorRow, a_cursorCol, a_regionTop, a_regionBottom, a_parserMode, a_paramOne, a_paramTwo, a_paramIndex, a_cells⟩ := u'
        exact ⟨by decide, by decide, hh _ (fun r' v' R' => by
          obtain ⟨f_bhostWidth, f_bhostHeight, f_broot, f_bfocusedPane, f_bliveCount, a_bparent, a_bfirst, a_bsecond, a_borientation, a_bshare, a_bleastWidth, a_bleastHeight, a_brectX, a_brectY, a_brectW, a_brectH, a_border, a_blive, a_bscreenWidth, a_bscreenHeight, a_bcursorRow, a_bcursorCol, a_bregionTop, a_bregionBottom, a_bparserMode, a_bparamOne, a_bparamTwo, a_bparamIndex, a_bcells⟩ := v'
          exact lw_347 R' (K _ _ R'))⟩)
  · obtain ⟨ra, ⟨m1, m2, m3, m4, m5, m6, m7, m8, m9, m10, m11, m12, m13, m14, m15, m16, m17, m18, m19, m20, m21, m22, m23, m24, m25, m26, m27, m28, m29⟩, ⟨n1, n2, n3, n4, n5, n6, n7, n8, n9, n10, n11, n12, n13, n14, n15, n16, n17, n18, n19, n20, n21, n22, n23, n24, n25, n26, n27, n28, n29⟩, R', fa, fb, so⟩ := pf_all R x9 bt
    have so' : ∀ post : Int32 → Prop, post 1 → wpL_sameOutside post (m1, m2, m3, m4, m5, m6, m7, m8, m9, m10, m11, m12, m13, m14, m15, m16, m17, m18, m19, m20, m21, m22, m23, m24, m25, m26, m27, m28, m29, f_bhostWidth, f_bhostHeight, f_broot, f_bfocusedPane, f_bliveCount, a_bparent, a_bfirst, a_bsecond, a_borientation, a_bshare, a_bleastWidth, a_bleastHeight, a_brectX, a_brectY, a_brectW, a_brectH, a_border, a_blive, a_bscreenWidth, a_bscreenHeight, a_bcursorRow, a_bcursorCol, a_bregionTop, a_bregionBottom, a_bparserMode, a_bparamOne, a_bparamTwo, a_bparamIndex, a_bcells) x9 := so
    exact fa _ (so' _ (br_f (by decide) (fb _ (br_t rfl (lw_347 R' (K _ _ R'))))))
end LW
theorem lw_all {post : Int32 → Prop} {L kc ks : Nat} {xs : Nat → Int32} (hL : L < 2 ^ 30) (K : post 1) : ∀ d i, L ≤ i + 3 * d → i < 2 ^ 30 + 3 → ∀ u v, pr_R u v → lw_J (wL_law_51 post L xs kc ks (d + 1)) (nI i) u v := by
  intro d
  induction d with
  | zero =>
    intro i h1 h2 u v R
    obtain ⟨f_hostWidth, f_hostHeight, f_root, f_focusedPane, f_liveCount, a_parent, a_first, a_second, a_orientation, a_share, a_leastWidth, a_leastHeight, a_rectX, a_rectY, a_rectW, a_rectH, a_order, a_live, a_screenWidth, a_screenHeight, a_cursorRow, a_cursorCol, a_regionTop, a_regionBottom, a_parserMode, a_paramOne, a_paramTwo, a_paramIndex, a_cells⟩ := u
    obtain ⟨f_bhostWidth, f_bhostHeight, f_broot, f_bfocusedPane, f_bliveCount, a_bparent, a_bfirst, a_bsecond, a_borientation, a_bshare, a_bleastWidth, a_bleastHeight, a_brectX, a_brectY, a_brectW, a_brectH, a_border, a_blive, a_bscreenWidth, a_bscreenHeight, a_bcursorRow, a_bcursorCol, a_bregionTop, a_bregionBottom, a_bparserMode, a_bparamOne, a_bparamTwo, a_bparamIndex, a_bcells⟩ := v
    exact br_t (nI_le (by omega) (by omega)) K
  | succ d ih =>
    intro i h1 h2 u v R
    obtain ⟨f_hostWidth, f_hostHeight, f_root, f_focusedPane, f_liveCount, a_parent, a_first, a_second, a_orientation, a_share, a_leastWidth, a_leastHeight, a_rectX, a_rectY, a_rectW, a_rectH, a_order, a_live, a_screenWidth, a_screenHeight, a_cursorRow, a_cursorCol, a_regionTop, a_regionBottom, a_parserMode, a_paramOne, a_paramTwo, a_paramIndex, a_cells⟩ := u
    obtain ⟨f_bhostWidth, f_bhostHeight, f_broot, f_bfocusedPane, f_bliveCount, a_bparent, a_bfirst, a_bsecond, a_borientation, a_bshare, a_bleastWidth, a_bleastHeight, a_brectX, a_brectY, a_brectW, a_brectH, a_border, a_blive, a_bscreenWidth, a_bscreenHeight, a_bcursorRow, a_bcursorCol, a_bregionTop, a_bregionBottom, a_bparserMode, a_bparamOne, a_bparamTwo, a_bparamIndex, a_bcells⟩ := v
    by_cases z : L ≤ i
    · exact br_t (nI_le z (by omega)) K
    · exact lw_51 hL (by omega) R (fun u' v' R' => ih (i + 3) (by omega) (by omega) u' v' R')
section LG
variable {f_hostWidth f_hostHeight f_root f_focusedPane f_liveCount : Int32} {a_parent a_first a_second a_orientation a_share a_leastWidth a_leastHeight a_rectX a_rectY a_rectW a_rectH a_order a_live a_screenWidth a_screenHeight a_cursorRow a_cursorCol a_regionTop a_regionBottom a_parserMode a_paramOne a_paramTwo a_paramIndex a_cells : Nat → Int32} {f_bhostWidth f_bhostHeight f_broot f_bfocusedPane f_bliveCount : Int32} {a_bparent a_bfirst a_bsecond a_borientation a_bshare a_bleastWidth a_bleastHeight a_brectX a_brectY a_brectW a_brectH a_border a_blive a_bscreenWidth a_bscreenHeight a_bcursorRow a_bcursorCol a_bregionTop a_bregionBottom a_bparserMode a_bparamOne a_bparamTwo a_bparamIndex a_bcells : Nat → Int32}
theorem lw_go {post : Int32 → Prop} {L kc ks : Nat} {xs : Nat → Int32} (hL : L ≤ 260) (K : post 1) (R : pr_R (f_hostWidth, f_hostHeight, f_root, f_focusedPane, f_liveCount, a_parent, a_first, a_second, a_orientation, a_share, a_leastWidth, a_leastHeight, a_rectX, a_rectY, a_rectW, a_rectH, a_order, a_live, a_screenWidth, a_screenHeight, a_cursorRow, a_cursorCol, a_regionTop, a_regionBottom, a_parserMode, a_paramOne, a_paramTwo, a_paramIndex, a_cells) (f_bhostWidth, f_bhostHeight, f_broot, f_bfocusedPane, f_bliveCount, a_bparent, a_bfirst, a_bsecond, a_borientation, a_bshare, a_bleastWidth, a_bleastHeight, a_brectX, a_brectY, a_brectW, a_brectH, a_border, a_blive, a_bscreenWidth, a_bscreenHeight, a_bcursorRow, a_bcursorCol, a_bregionTop, a_bregionBottom, a_bparserMode, a_bparamOne, a_bparamTwo, a_bparamIndex, a_bcells)) : wpL_invariants (fun r => (r = 0 → post 0) ∧ (¬ r = 0 → ∃ fu, wL_law_51 post L xs kc ks fu 2 f_hostWidth f_hostHeight f_root f_focusedPane f_liveCount a_parent a_first a_second a_orientation a_share a_leastWidth a_leastHeight a_rectX a_rectY a_rectW a_rectH a_order a_live a_screenWidth a_screenHeight a_cursorRow a_cursorCol a_regionTop a_regionBottom a_parserMode a_paramOne a_paramTwo a_paramIndex a_cells f_bhostWidth f_bhostHeight f_broot f_bfocusedPane f_bliveCount a_bparent a_bfirst a_bsecond a_borientation a_bshare a_bleastWidth a_bleastHeight a_brectX a_brectY a_brectW a_brectH a_border a_blive a_bscreenWidth a_bscreenHeight a_bcursorRow a_bcursorCol a_bregionTop a_bregionBottom a_bparserMode a_bparamOne a_bparamTwo a_bparamIndex a_bcells)) (f_hostWidth, f_hostHeight, f_root, f_focusedPane, f_liveCount, a_parent, a_first, a_second, a_orientation, a_share, a_leastWidth, a_leastHeight, a_rectX, a_rectY, a_rectW, a_rectH, a_order, a_live, a_screenWidth, a_screenHeight, a_cursorRow, a_cursorCol, a_regionTop, a_regionBottom, a_parserMode, a_paramOne, a_paramTwo, a_paramIndex, a_cells) := by
  have h : lw_J (wL_law_51 post L xs kc ks (L + 1)) (nI 2) (f_hostWidth, f_hostHeight, f_root, f_focusedPane, f_liveCount, a_parent, a_first, a_second, a_orientation, a_share, a_leastWidth, a_leastHeight, a_rectX, a_rectY, a_rectW, a_rectH, a_order, a_live, a_screenWidth, a_screenHeight, a_cursorRow, a_cursorCol, a_regionTop, a_regionBottom, a_parserMode, a_paramOne, a_paramTwo, a_paramIndex, a_cells) (f_bhostWidth, f_bhostHeight, f_broot, f_bfocusedPane, f_bliveCount, a_bparent, a_bfirst, a_bsecond, a_borientation, a_bshare, a_bleastWidth, a_bleastHeight, a_brectX, a_brectY, a_brectW, a_brectH, a_border, a_blive, a_bscreenWidth, a_bscreenHeight, a_bcursorRow, a_bcursorCol, a_bregionTop, a_bregionBottom, a_bparserMode, a_bparamOne, a_bparamTwo, a_bparamIndex, a_bcells) := lw_all (by omega) K L 2 (by omega) (by omega) _ _ R
  exact pf_inv R (br_f (by decide) ⟨L + 1, h⟩)
end LG
end
section
theorem i_vc (xs : Nat → Int32) (L : Nat) (hL : L ≤ 260) : wpL_law (fun r => r = 1) L xs := by
  unfold wpL_law
  refine lw_cell (k := 0) rfl (by omega) (by omega) (fun k0 => ⟨by decide, fun x1 _ => lw_cell (k := 1) rfl (by omega) (by omega) (fun k1 => ⟨by decide, fun x2 _ => ?_⟩)⟩)
  obtain ⟨w0, ew, a1, a2⟩ := la_clN x1 (a := 8) (b := 24) (by omega) (by omega)
  obtain ⟨h0, eh, b1, b2⟩ := la_clN x2 (a := 4) (b := 12) (by omega) (by omega)
  refine ⟨24, 2572, by omega, by omega, xi_init ew eh b1 (fun lw lh rx ry rw rh ord L1 E1 => ⟨by omega, by omega, 24, 2572, by omega, by omega, xi_init ew eh b1 (fun lw' lh' rx' ry' rw' rh' ord' L2 E2 => ?_)⟩)⟩
  have R := pi_R (ord := ord) (ord' := ord') a1 a2 b1 b2 L1 E1 L2 E2
  exact lw_go (post := fun r => r = 1) hL rfl R
end
