def sm_f (f : Nat → Nat) : Nat → Nat
  | 0 => 0
  | n + 1 => sm_f f n + f n
theorem sm_s (f : Nat → Nat) (n : Nat) : sm_f f (n + 1) = sm_f f n + f n := rfl
theorem sm_c {f g : Nat → Nat} : ∀ {n : Nat}, (∀ i, i < n → f i = g i) → sm_f f n = sm_f g n
  | 0, _ => rfl
  | n + 1, h => by rw [sm_s, sm_s, sm_c (fun i hi => h i (by omega)), h n (by omega)]
theorem sm_a (f g : Nat → Nat) : ∀ n, sm_f (fun i => f i + g i) n = sm_f f n + sm_f g n
  | 0 => rfl
  | n + 1 => by rw [sm_s, sm_s, sm_s, sm_a f g n]; omega
theorem sm_k (k : Nat) : ∀ n, sm_f (fun _ => k) n = n * k
  | 0 => by rw [Nat.zero_mul]; rfl
  | n + 1 => by rw [sm_s, sm_k k n, Nat.succ_mul]
theorem sm_sw (f : Nat → Nat → Nat) (m : Nat) : ∀ n, sm_f (fun i => sm_f (fun j => f i j) m) n = sm_f (fun j => sm_f (fun i => f i j) n) m
  | 0 => by
    have : sm_f (fun j => sm_f (fun i => f i j) 0) m = sm_f (fun _ => 0) m := sm_c (fun _ _ => rfl)
    rw [this, sm_k, Nat.mul_zero]
    rfl
  | n + 1 => by
    rw [sm_s, sm_sw f m n, ← sm_a]
    exact sm_c (fun j _ => (sm_s (fun i => f i j) n).symm)
/-- w of the places carry k -/
theorem sm_iv {x w k : Nat} : ∀ {n : Nat}, sm_f (fun j => if x ≤ j ∧ j < x + w then k else 0) n = (if n ≤ x then 0 else if x + w ≤ n then w * k else (n - x) * k)
  | 0 => by rw [if_pos (Nat.zero_le _)]; rfl
  | n + 1 => by
    rw [sm_s, sm_iv]
    by_cases h1 : n + 1 ≤ x
    · rw [if_pos h1, if_pos (by omega), if_neg (by omega)]
    · rw [if_neg h1]
      by_cases h2 : x + w ≤ n
      · rw [if_pos (show x + w ≤ n + 1 by omega), if_neg (show ¬ (x ≤ n ∧ n < x + w) by omega)]
        by_cases h3 : n ≤ x
        · rw [if_pos h3]
          have : w = 0 := by omega
          rw [this, Nat.zero_mul]
        · rw [if_neg h3, if_pos h2]
          omega
      · rw [if_pos (show x ≤ n ∧ n < x + w by omega)]
        by_cases h3 : n ≤ x
        · rw [if_pos h3]
          have e : n = x := by omega
          by_cases h4 : x + w ≤ n + 1
          · rw [if_pos h4]
            have : w = 1 := by omega
            rw [this]
            omega
          · rw [if_neg h4, show n + 1 - x = 1 by omega]
            omega
        · rw [if_neg h3, if_neg h2]
          by_cases h4 : x + w ≤ n + 1
          · rw [if_pos h4, show w = n - x + 1 by omega, Nat.succ_mul]
          · rw [if_neg h4, show n + 1 - x = n - x + 1 by omega, Nat.succ_mul]
theorem sm_rect {x y w h W H : Nat} (h1 : x + w ≤ W) (h2 : y + h ≤ H) : sm_f (fun r => sm_f (fun s => if (y ≤ r ∧ r < y + h) ∧ (x ≤ s ∧ s < x + w) then 1 else 0) W) H = w * h := by
  have e : ∀ r, r < H → sm_f (fun s => if (y ≤ r ∧ r < y + h) ∧ (x ≤ s ∧ s < x + w) then 1 else 0) W = if y ≤ r ∧ r < y + h then w else 0 := by
    intro r _
    by_cases z : y ≤ r ∧ r < y + h
    · rw [if_pos z]
      have : sm_f (fun s => if (y ≤ r ∧ r < y + h) ∧ (x ≤ s ∧ s < x + w) then 1 else 0) W = sm_f (fun j => if x ≤ j ∧ j < x + w then 1 else 0) W := sm_c (fun s _ => by
        by_cases q : x ≤ s ∧ s < x + w
        · rw [if_pos ⟨z, q⟩, if_pos q]
        · rw [if_neg (fun c => q c.2), if_neg q])
      rw [this, sm_iv]
      by_cases q : W ≤ x
      · rw [if_pos q]; omega
      · rw [if_neg q, if_pos h1, Nat.mul_one]
    · rw [if_neg z]
      have : sm_f (fun s => if (y ≤ r ∧ r < y + h) ∧ (x ≤ s ∧ s < x + w) then 1 else 0) W = sm_f (fun _ => 0) W := sm_c (fun s _ => by rw [if_neg (fun c => z c.1)])
      rw [this, sm_k, Nat.mul_zero]
  rw [sm_c e, sm_iv]
  by_cases q : H ≤ y
  · rw [if_pos q]
    have : h = 0 := by omega
    rw [this, Nat.mul_zero]
  · rw [if_neg q, if_pos h2, Nat.mul_comm]
/-- at most one place carries 1 -/
theorem sm_one {f : Nat → Nat} : ∀ {n : Nat}, (∀ i, i < n → f i = 0 ∨ f i = 1) → (∀ i j, i < n → j < n → f i = 1 → f j = 1 → i = j) → (sm_f f n = 0 ∧ ∀ i, i < n → f i = 0) ∨ (sm_f f n = 1 ∧ ∃ i, i < n ∧ f i = 1)
  | 0, _, _ => Or.inl ⟨rfl, fun i hi => by omega⟩
  | n + 1, h, u => by
    rcases sm_one (n := n) (fun i hi => h i (by omega)) (fun i j hi hj => u i j (by omega) (by omega)) with ⟨a, b⟩ | ⟨a, i, hi, b⟩
    · rcases h n (by omega) with z | z
      · refine Or.inl ⟨by rw [sm_s, a, z], fun i hi => ?_⟩
        by_cases e : i = n
        · rw [e]; exact z
        · exact b i (by omega)
      · exact Or.inr ⟨by rw [sm_s, a, z], n, by omega, z⟩
    · rcases h n (by omega) with z | z
      · exact Or.inr ⟨by rw [sm_s, a, z], i, by omega, b⟩
      · have := u i n (by omega) (by omega) b z
        omega
/-- two leaves hold no cell together -/
theorem ge_two {c : Nat} {kd : Nat → Int32} {en X Y W H : Nat → Nat} (P : ps_P c kd en) (G : ge_G c kd en X Y W H) {r q : Nat} : ∀ i, i < c → ∀ j k, i ≤ j → j < en i → i ≤ k → k < en i → kd j = 0 → kd k = 0 → ge_in X Y W H r q j → ge_in X Y W H r q k → j = k := by
  apply ps_up P (Q := fun i => ∀ j k, i ≤ j → j < en i → i ≤ k → k < en i → kd j = 0 → kd k = 0 → ge_in X Y W H r q j → ge_in X Y W H r q k → j = k)
  · intro i hi hk j k h1 h2 h3 h4 _ _ _ _
    have e := ps_lf P hi hk
    omega
  · intro i hi hk q1 q2 j k h1 h2 h3 h4 kj kk ij ik
    obtain ⟨a1, a2, a3, a4, a5, a6⟩ := ps_nd P hi hk
    have g := ge_ch G (r := r) (q := q) hi hk
    have up1 := fun z h h' => ge_in_up P G (r := r) (q := q) (i + 1) a5 z h h'
    have up2 := fun z h h' => ge_in_up P G (r := r) (q := q) (en (i + 1)) a6 z h h'
    have j0 : j ≠ i := fun e => hk (by rw [← e]; exact kj)
    have k0 : k ≠ i := fun e => hk (by rw [← e]; exact kk)
    by_cases j1 : j < en (i + 1) <;> by_cases k1 : k < en (i + 1)
    · exact q1 j k (by omega) j1 (by omega) k1 kj kk ij ik
    · exact absurd (up2 k (by omega) (by omega) ik) (g.1 (up1 j (by omega) j1 ij)).2.1
    · exact absurd (up2 j (by omega) (by omega) ij) (g.1 (up1 k (by omega) k1 ik)).2.1
    · exact q2 j k (by omega) (by omega) (by omega) (by omega) kj kk ij ik
