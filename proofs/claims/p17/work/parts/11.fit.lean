/-- what stands in an array after the panes below i that have a flag have been given their new value -/
def fi_A (lv : Nat → Int32) (i : Nat) (nw od : Nat → Int32) : Nat → Int32 := fun g => if g < i ∧ lv g ≠ 0 then nw g else od g
theorem fi_A0 {lv nw od : Nat → Int32} : fi_A lv 0 nw od = od := by
  funext g
  unfold fi_A
  rw [if_neg (by omega)]
theorem fi_Ao {lv nw od : Nat → Int32} {i g : Nat} (h : i ≤ g) : fi_A lv i nw od g = od g := by
  unfold fi_A
  rw [if_neg (by omega)]
theorem fi_An {lv nw od : Nat → Int32} {i g : Nat} (h : g < i) (hl : lv g ≠ 0) : fi_A lv i nw od g = nw g := by
  unfold fi_A
  rw [if_pos ⟨h, hl⟩]
theorem fi_Ad {lv nw od : Nat → Int32} {i g : Nat} (hl : lv g = 0) : fi_A lv i nw od g = od g := by
  unfold fi_A
  rw [if_neg (fun z => z.2 hl)]
theorem fi_Ak {lv nw od : Nat → Int32} {i : Nat} (h : lv i = 0 ∨ nw i = od i) : fi_A lv (i + 1) nw od = fi_A lv i nw od := by
  funext g
  by_cases z : g = i
  · subst z
    rw [fi_Ao (Nat.le_refl _)]
    rcases h with h | h
    · rw [fi_Ad h]
    · by_cases y : lv g = 0
      · rw [fi_Ad y]
      · rw [fi_An (by omega) y, h]
  · unfold fi_A
    by_cases y : g < i ∧ lv g ≠ 0
    · rw [if_pos y, if_pos ⟨by omega, y.2⟩]
    · rw [if_neg y, if_neg (fun x => y ⟨by omega, x.2⟩)]
theorem fi_Au {lv nw od : Nat → Int32} {i : Nat} {x : Int32} (h : lv i ≠ 0) (hx : x = nw i) : upd (fi_A lv i nw od) i x = fi_A lv (i + 1) nw od := by
  subst hx
  funext g
  by_cases z : g = i
  · subst z; rw [pk_us, fi_An (by omega) h]
  · rw [pk_un z]
    unfold fi_A
    by_cases y : g < i ∧ lv g ≠ 0
    · rw [if_pos y, if_pos ⟨by omega, y.2⟩]
    · rw [if_neg y, if_neg (fun x => y ⟨by omega, x.2⟩)]
theorem fi_Ae {lv nw nw' od : Nat → Int32} {i : Nat} (h : ∀ g, g < i → lv g ≠ 0 → nw g = nw' g) : fi_A lv i nw od = fi_A lv i nw' od := by
  funext g
  by_cases y : g < i ∧ lv g ≠ 0
  · rw [fi_An y.1 y.2, fi_An y.1 y.2, h g y.1 y.2]
  · unfold fi_A
    rw [if_neg y, if_neg y]
theorem fi_Al {lv lv' nw od : Nat → Int32} {i : Nat} (h : ∀ g, g < i → (lv g ≠ 0 ↔ lv' g ≠ 0)) : fi_A lv i nw od = fi_A lv' i nw od := by
  funext g
  by_cases y : g < i ∧ lv g ≠ 0
  · rw [fi_An y.1 y.2, fi_An y.1 ((h g y.1).mp y.2)]
  · unfold fi_A
    rw [if_neg y, if_neg (fun z => y ⟨z.1, (h g z.1).mpr z.2⟩)]
/-- the cells that are made blank when the panes below i keep kw columns and kh rows -/
def fi_S (lv : Nat → Int32) (kw kh : Nat → Nat) (i : Nat) (j : Nat) : Prop := j / 288 < i ∧ lv (j / 288) ≠ 0 ∧ (kh (j / 288) ≤ j % 288 / 24 ∨ kw (j / 288) ≤ j % 288 % 24)
theorem fi_S0 {lv : Nat → Int32} {kw kh : Nat → Nat} {a : Nat → Int32} : ce_w (fi_S lv kw kh 0) a = a := ce_w0 (fun j h => by have := h.1; omega)
theorem fi_Sk {lv : Nat → Int32} {kw kh : Nat → Nat} {i : Nat} {a : Nat → Int32} (h : lv i = 0) : ce_w (fi_S lv kw kh (i + 1)) a = ce_w (fi_S lv kw kh i) a := by
  apply ce_we
  intro j
  constructor
  · intro z
    obtain ⟨z1, z2, z3⟩ := z
    have : j / 288 ≠ i := fun e => z2 (by rw [e]; exact h)
    exact ⟨by omega, z2, z3⟩
  · intro z
    obtain ⟨z1, z2, z3⟩ := z
    exact ⟨by omega, z2, z3⟩
theorem fi_Su {lv : Nat → Int32} {kw kh : Nat → Nat} {i : Nat} {a : Nat → Int32} {S : Nat → Prop} (h : lv i ≠ 0) (hS : ∀ j, S j ↔ i * 288 ≤ j ∧ j < i * 288 + 288 ∧ (kh i ≤ (j - i * 288) / 24 ∨ kw i ≤ (j - i * 288) % 24)) : ce_w S (ce_w (fi_S lv kw kh i) a) = ce_w (fi_S lv kw kh (i + 1)) a := by
  rw [ce_ww]
  apply ce_we
  intro j
  rw [hS]
  unfold fi_S
  by_cases e : j / 288 = i
  · have e2 : j % 288 = j - i * 288 := by omega
    rw [e, e2]
    constructor
    · rintro (z | z)
      · exact ⟨by omega, h, z.2.2⟩
      · omega
    · intro z
      exact Or.inl ⟨by omega, by omega, z.2.2⟩
  · constructor
    · rintro (z | z)
      · omega
      · exact ⟨by omega, z.2⟩
    · intro z
      exact Or.inr ⟨by omega, z.2⟩
theorem fi_R {lv : Nat → Int32} {kw kh : Nat → Nat} {g ow oh nw nh : Nat} {x y : Nat → Int32} (hg : g < 8) (hl : lv g ≠ 0) (R : ce_R (g * 288) ow oh x y) (h1 : kw g ≤ nw) (h2 : kh g ≤ nh) : ce_R (g * 288) nw nh (ce_w (fi_S lv kw kh 8) x) (ce_w (fi_S lv kw kh 8) y) := by
  apply ce_Rw2 R
  intro j b1 b2
  refine ⟨fun z => absurd z.2 z.1, id, fun z => Or.inl ?_⟩
  have e : j / 288 = g := by omega
  have e2 : j % 288 = j - g * 288 := by omega
  unfold fi_S
  rw [e, e2]
  exact ⟨hg, hl, by omega⟩
theorem fi_new {B w h : Nat} {x y : Nat → Int32} : ce_R B w h (ce_w (ce_q B 0 0 12 24) x) (ce_w (ce_q B 0 0 12 24) y) := by
  intro j h1 h2
  have q : ce_q B 0 0 12 24 j := ⟨h1, by omega, by omega, by omega, by omega⟩
  rw [ce_wt q, ce_wt q]
  exact ⟨rfl, ⟨32, by omega, rfl⟩, fun _ => rfl⟩
theorem fi_newO {B : Nat} {x : Nat → Int32} : ce_O B x (ce_w (ce_q B 0 0 12 24) x) := ce_Ow (fun j h => by
  obtain ⟨h1, h2, h3, h4, h5⟩ := h
  omega)
