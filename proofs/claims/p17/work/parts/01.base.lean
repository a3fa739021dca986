noncomputable def cc_b (P : Prop) : Nat := @ite Nat P (Classical.propDecidable P) 1 0
theorem cc_bt {P : Prop} (h : P) : cc_b P = 1 := by unfold cc_b; rw [if_pos h]
theorem cc_bf {P : Prop} (h : ¬ P) : cc_b P = 0 := by unfold cc_b; rw [if_neg h]
theorem cc_ble (P : Prop) : cc_b P ≤ 1 := by
  rcases Classical.em P with h | h
  · rw [cc_bt h]; omega
  · rw [cc_bf h]; omega
theorem cc_bmono {P Q : Prop} (h : P → Q) : cc_b P ≤ cc_b Q := by
  rcases Classical.em P with hp | hp
  · rw [cc_bt hp, cc_bt (h hp)]; omega
  · rw [cc_bf hp]; omega
noncomputable def cc_n (P : Nat → Prop) : Nat → Nat
  | 0 => 0
  | k + 1 => cc_n P k + cc_b (P k)
theorem cc_s (P : Nat → Prop) (k : Nat) : cc_n P (k + 1) = cc_n P k + cc_b (P k) := rfl
theorem cc_mono {P Q : Nat → Prop} : ∀ {N : Nat}, (∀ k, k < N → P k → Q k) → cc_n P N ≤ cc_n Q N
  | 0, _ => Nat.le_refl _
  | N + 1, h => by
    have a := cc_mono (P := P) (Q := Q) (N := N) (fun k hk => h k (by omega))
    have b := cc_bmono (h N (by omega))
    simp only [cc_n]; omega
theorem cc_lt {P Q : Nat → Prop} {a : Nat} (hp : ¬ P a) (hq : Q a) : ∀ {N : Nat}, (∀ k, k < N → P k → Q k) → a < N → cc_n P N < cc_n Q N
  | 0, _, h => by omega
  | N + 1, h, ha => by
    simp only [cc_n]
    rcases Nat.lt_or_ge a N with z | z
    · have x := cc_lt hp hq (N := N) (fun k hk => h k (by omega)) z
      have b := cc_bmono (h N (by omega))
      omega
    · have e : a = N := by omega
      subst e
      have x := cc_mono (P := P) (Q := Q) (N := a) (fun k hk => h k (by omega))
      rw [cc_bt hq, cc_bf hp]; omega
theorem cc_le (P : Nat → Prop) : ∀ N, cc_n P N ≤ N
  | 0 => Nat.le_refl _
  | N + 1 => by have := cc_le P N; have := cc_ble (P N); simp only [cc_n]; omega
theorem cc_eq {P Q : Nat → Prop} {N : Nat} (h : ∀ k, k < N → (P k ↔ Q k)) : cc_n P N = cc_n Q N :=
  Nat.le_antisymm (cc_mono fun k hk => (h k hk).mp) (cc_mono fun k hk => (h k hk).mpr)
theorem cc_add {P : Nat → Prop} {a : Nat} (hp : ¬ P a) : ∀ {N : Nat}, a < N → cc_n (fun k => P k ∨ k = a) N = cc_n P N + 1
  | 0, h => by omega
  | N + 1, h => by
    simp only [cc_n]
    rcases Nat.lt_or_ge a N with z | z
    · rw [cc_add hp z]
      have : cc_b (P N ∨ N = a) = cc_b (P N) := Nat.le_antisymm (cc_bmono fun q => q.elim id (fun e => by omega)) (cc_bmono Or.inl)
      omega
    · have e : a = N := by omega
      subst e
      rw [cc_eq (P := fun k => P k ∨ k = a) (Q := P) (fun k hk => ⟨fun q => q.elim id (fun e => by omega), Or.inl⟩), cc_bt (Or.inr rfl), cc_bf hp]
theorem cc_del {P : Nat → Prop} {a N : Nat} (hp : P a) (ha : a < N) : cc_n (fun k => P k ∧ k ≠ a) N + 1 = cc_n P N := by
  rw [← cc_add (P := fun k => P k ∧ k ≠ a) (a := a) (fun z => z.2 rfl) ha]
  apply cc_eq
  intro k _
  constructor
  · rintro (z | z)
    · exact z.1
    · rw [z]; exact hp
  · intro z
    rcases Nat.decEq k a with h | h
    · exact Or.inl ⟨z, h⟩
    · exact Or.inr h
theorem cc_all {P : Nat → Prop} : ∀ {N : Nat}, (∀ k, k < N → P k) → cc_n P N = N
  | 0, _ => rfl
  | N + 1, h => by rw [cc_s, cc_all (fun k hk => h k (by omega)), cc_bt (h N (by omega))]
theorem cc_full {P : Nat → Prop} : ∀ {N : Nat}, cc_n P N = N → ∀ k, k < N → P k
  | 0, _, k, hk => by omega
  | N + 1, h, k, hk => by
    rw [cc_s] at h
    have a := cc_le P N
    have b := cc_ble (P N)
    rcases Nat.lt_or_ge k N with z | z
    · exact cc_full (N := N) (by omega) k z
    · have e : k = N := by omega
      subst e
      rcases Classical.em (P k) with q | q
      · exact q
      · rw [cc_bf q] at h; omega
theorem cc_inj {p : Nat → Prop} {f : Nat → Nat} {M : Nat} : ∀ {n : Nat} {q : Nat → Prop}, (∀ i, i < n → p i → f i < M ∧ q (f i)) → (∀ i j, i < n → j < n → p i → p j → f i = f j → i = j) → cc_n p n ≤ cc_n q M
  | 0, _, _, _ => Nat.zero_le _
  | n + 1, q, h, inj => by
    rw [cc_s]
    rcases Classical.em (p n) with z | z
    · have hn := h n (by omega) z
      have ih := cc_inj (p := p) (f := f) (M := M) (n := n) (q := fun k => q k ∧ k ≠ f n)
        (fun i hi hp => ⟨(h i (by omega) hp).1, (h i (by omega) hp).2, fun e => by
          have := inj i n (by omega) (by omega) hp z e
          omega⟩)
        (fun i j hi hj hp hq e => inj i j (by omega) (by omega) hp hq e)
      have d := cc_del (P := q) hn.2 hn.1
      rw [cc_bt z]; omega
    · rw [cc_bf z]
      exact cc_inj (fun i hi hp => h i (by omega) hp) (fun i j hi hj hp hq e => inj i j (by omega) (by omega) hp hq e)
theorem cc_pig {f : Nat → Nat} {n M : Nat} (h : ∀ i, i < n → f i < M) (inj : ∀ i j, i < n → j < n → f i = f j → i = j) : n ≤ M := by
  have a := cc_inj (p := fun _ => True) (q := fun _ => True) (f := f) (M := M) (n := n) (fun i hi _ => ⟨h i hi, trivial⟩) (fun i j hi hj _ _ e => inj i j hi hj e)
  rw [cc_all (fun _ _ => trivial), cc_all (fun _ _ => trivial)] at a
  exact a

