theorem cc_two (kd : Nat → Int32) : ∀ n, cc_n (fun j => kd j = 0) n + cc_n (fun j => kd j ≠ 0) n = n
  | 0 => rfl
  | n + 1 => by
    have h := cc_two kd n
    rw [cc_s, cc_s]
    by_cases z : kd n = 0
    · rw [cc_bt z, cc_bf (P := kd n ≠ 0) (fun y => y z)]; omega
    · rw [cc_bf (P := kd n = 0) z, cc_bt (P := kd n ≠ 0) z]; omega
/-- the flags say which panes are in the tree -/
def lv_R (c : Nat) (nd : Nat → Nat) (lv : Nat → Int32) : Prop := ∀ g, g < 8 → (lv g = 0 ∨ lv g = 1) ∧ (lv g ≠ 0 ↔ ∃ i, i < c ∧ nd i = g)
theorem lv_cnt {c : Nat} {nd en po : Nat → Nat} {root : Int32} {pa fi se ori sh kd vl lv : Nat → Int32} (T : tr_T c nd en po root pa fi se ori sh kd vl) (V : lv_R c nd lv) : cc_n (fun g => lv g ≠ 0) 8 = cc_n (fun j => kd j = 0) c := by
  obtain ⟨P, T2, T3, T4, T5, T6, T7⟩ := id T
  apply Nat.le_antisymm
  · apply cc_inj (f := po)
    · intro g hg hz
      obtain ⟨i, hi, e⟩ := (V g hg).2.mp hz
      subst e
      obtain ⟨t1, t2, t3, t4, t5⟩ := T6 i hi
      rw [t2]
      refine ⟨hi, ?_⟩
      by_cases z : kd i = 0
      · exact z
      · have := (t5 z).1; omega
    · intro a b ha hb hza hzb e
      obtain ⟨i, hi, ea⟩ := (V a ha).2.mp hza
      obtain ⟨j, hj, eb⟩ := (V b hb).2.mp hzb
      subst ea eb
      rw [(T6 i hi).2.1, (T6 j hj).2.1] at e
      rw [e]
  · apply cc_inj (f := nd)
    · intro i hi hz
      have h8 := ((T6 i hi).2.2.2.1 hz).1
      exact ⟨h8, (V _ h8).2.mpr ⟨i, hi, rfl⟩⟩
    · intro a b ha hb _ _ e
      exact tr_inj T ha hb e
theorem lv_c {c : Nat} {nd en po : Nat → Nat} {root : Int32} {pa fi se ori sh kd vl lv : Nat → Int32} (T : tr_T c nd en po root pa fi se ori sh kd vl) (V : lv_R c nd lv) : 2 * cc_n (fun g => lv g ≠ 0) 8 = c + 1 := by
  have a := lv_cnt T V
  have b := ps_cnt0 T.1
  have d := cc_two kd c
  omega
theorem lv_free {c g : Nat} {nd en po : Nat → Nat} {root : Int32} {pa fi se ori sh kd vl lv : Nat → Int32} (T : tr_T c nd en po root pa fi se ori sh kd vl) (V : lv_R c nd lv) (hg : g < 8) (h : lv g = 0) : c ≤ 13 ∧ cc_n (fun g => lv g ≠ 0) 8 ≤ 7 ∧ ∀ i, i < c → nd i ≠ g := by
  have a := lv_c T V
  have b := cc_lt (P := fun g => lv g ≠ 0) (Q := fun _ => True) (a := g) (fun z => z h) trivial (N := 8) (fun _ _ _ => trivial) hg
  rw [cc_all (P := fun _ => True) (fun _ _ => trivial)] at b
  refine ⟨by omega, by omega, ?_⟩
  intro i hi e
  exact (V g hg).2.mpr ⟨i, hi, e⟩ h
theorem lv_node {c n : Nat} {nd en po : Nat → Nat} {root : Int32} {pa fi se ori sh kd vl : Nat → Int32} (T : tr_T c nd en po root pa fi se ori sh kd vl) (h8 : 8 ≤ n) (h : ori n = 0) : ∀ i, i < c → nd i ≠ n := by
  intro i hi e
  obtain ⟨t1, t2, t3, t4, t5⟩ := T.2.2.2.2.2.1 i hi
  subst e
  rw [h] at t3
  have := (t4 t3.symm).1
  omega
theorem lv_last {c : Nat} {nd en po : Nat → Nat} {root : Int32} {pa fi se ori sh kd vl : Nat → Int32} (T : tr_T c nd en po root pa fi se ori sh kd vl) (hc : c ≤ 13) (h : ∀ n, 8 ≤ n → n < 14 → ori n ≠ 0) : ∀ i, i < c → nd i ≠ 14 := by
  obtain ⟨P, T2, T3, T4, T5, T6, T7⟩ := id T
  intro i hi e
  have all : ∀ n, n < 7 → ∃ j, j < c ∧ nd j = n + 8 := by
    intro n hn
    by_cases z : n = 6
    · subst z; exact ⟨i, hi, e⟩
    · apply Classical.byContradiction
      intro y
      exact h (n + 8) (by omega) (by omega) (T7 (n + 8) (by omega) (fun j hj ej => y ⟨j, hj, ej⟩))
  have a : 7 ≤ cc_n (fun j => kd j ≠ 0) c := by
    have b := cc_inj (p := fun _ => True) (q := fun j => kd j ≠ 0) (f := fun n => po (n + 8)) (M := c) (n := 7)
      (fun n hn _ => by
        obtain ⟨j, hj, ej⟩ := all n hn
        rw [← ej, (T6 j hj).2.1]
        refine ⟨hj, fun z => ?_⟩
        have := ((T6 j hj).2.2.2.1 z).1
        omega)
      (fun x y hx hy _ _ e => by
        obtain ⟨j, hj, ej⟩ := all x hx
        obtain ⟨k, hk, ek⟩ := all y hy
        try dsimp only at e
        rw [← ej, ← ek, (T6 j hj).2.1, (T6 k hk).2.1] at e
        subst e
        omega)
    rw [cc_all (P := fun _ => True) (fun _ _ => trivial)] at b
    exact b
  have d := cc_two kd c
  have f := ps_cnt0 P
  omega
