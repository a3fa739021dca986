/-- the component's tree (parents, children, orientations, shares) and the reference's preorder list are one tree: nd the node at a place, po the place of a node -/
def tr_t (c : Nat) (nd en po : Nat → Nat) (pa fi se ori sh kd vl : Nat → Int32) (i : Nat) : Prop :=
  nd i < 15 ∧ po (nd i) = i ∧ ori (nd i) = kd i ∧ (kd i = 0 → nd i < 8 ∧ vl i = nI (nd i)) ∧
  (kd i ≠ 0 → 8 ≤ nd i ∧ sh (nd i) = vl i ∧ fi (nd i) = nI (nd (i + 1)) ∧ se (nd i) = nI (nd (en (i + 1))) ∧ pa (nd (i + 1)) = nI (nd i) ∧ pa (nd (en (i + 1))) = nI (nd i))
def tr_T (c : Nat) (nd en po : Nat → Nat) (root : Int32) (pa fi se ori sh kd vl : Nat → Int32) : Prop :=
  ps_P c kd en ∧ c ≤ 15 ∧ root = nI (nd 0) ∧ pa (nd 0) = -1 ∧ la_K c kd vl ∧ (∀ i, i < c → tr_t c nd en po pa fi se ori sh kd vl i) ∧ (∀ n, n < 15 → (∀ i, i < c → nd i ≠ n) → ori n = 0)
theorem tr_inj {c : Nat} {nd en po : Nat → Nat} {root : Int32} {pa fi se ori sh kd vl : Nat → Int32} (T : tr_T c nd en po root pa fi se ori sh kd vl) {i j : Nat} (hi : i < c) (hj : j < c) (h : nd i = nd j) : i = j := by
  have a := (T.2.2.2.2.2.1 i hi).2.1
  have b := (T.2.2.2.2.2.1 j hj).2.1
  rw [h, b] at a
  exact a.symm
theorem tr_m1 {n : Nat} (h : n < 2 ^ 31) : ¬ (nI n = -1) := by
  intro e
  have a := nI_pos h
  rw [e] at a
  exact a (by decide)
def sp_s (p e : Nat) : Nat := if e ≤ p then e else e + 2
def sp_f {α : Type} (p : Nat) (a b d : α) (g : Nat → α) (j : Nat) : α := if j < p then g j else if j = p then a else if j = p + 1 then b else if j = p + 2 then d else g (j - 2)
theorem sp_sl {p e : Nat} (h : e ≤ p) : sp_s p e = e := if_pos h
theorem sp_sg {p e : Nat} (h : p < e) : sp_s p e = e + 2 := if_neg (by omega)
theorem sp_fs {α : Type} {p : Nat} {a b d : α} {g : Nat → α} {j : Nat} (h : j ≠ p) : sp_f p a b d g (sp_s p j) = g j := by
  unfold sp_f
  by_cases z : j ≤ p
  · rw [sp_sl z, if_pos (by omega)]
  · rw [sp_sg (by omega), if_neg (by omega), if_neg (by omega), if_neg (by omega), if_neg (by omega)]
    exact congrArg g (by omega)
theorem sp_f0 {α : Type} {p : Nat} {a b d : α} {g : Nat → α} : sp_f p a b d g p = a := by
  unfold sp_f
  rw [if_neg (by omega), if_pos rfl]
theorem sp_f1 {α : Type} {p : Nat} {a b d : α} {g : Nat → α} : sp_f p a b d g (p + 1) = b := by
  unfold sp_f
  rw [if_neg (by omega), if_neg (by omega), if_pos rfl]
theorem sp_f2 {α : Type} {p : Nat} {a b d : α} {g : Nat → α} : sp_f p a b d g (p + 2) = d := by
  unfold sp_f
  rw [if_neg (by omega), if_neg (by omega), if_neg (by omega), if_pos rfl]
theorem sp_cov {p c j : Nat} (hp : p < c) (hj : j < c + 2) : j = p + 1 ∨ j = p + 2 ∨ ∃ i, i < c ∧ j = sp_s p i := by
  by_cases z : j ≤ p
  · exact Or.inr (Or.inr ⟨j, by omega, (sp_sl z).symm⟩)
  · by_cases z1 : j = p + 1
    · exact Or.inl z1
    · by_cases z2 : j = p + 2
      · exact Or.inr (Or.inl z2)
      · exact Or.inr (Or.inr ⟨j - 2, by omega, by rw [sp_sg (by omega)]; omega⟩)
theorem sp_lt {p a b : Nat} (h : a < b) : sp_s p a < sp_s p b := by
  unfold sp_s; split <;> split <;> omega
theorem sp_s1 {p j : Nat} (h : j ≠ p) : sp_s p (j + 1) = sp_s p j + 1 := by
  unfold sp_s; split <;> split <;> omega
theorem sp_en {c p : Nat} {kd : Nat → Int32} {en : Nat → Nat} (P : ps_P c kd en) (hp : p < c) (hk : kd p = 0) {j : Nat} : sp_f p (p + 3) (p + 2) (p + 3) (fun j => sp_s p (en j)) (sp_s p j) = sp_s p (en j) := by
  by_cases z : j = p
  · subst z
    rw [sp_sl (Nat.le_refl _), sp_f0, ps_lf P hp hk, sp_sg (by omega)]
  · exact sp_fs z
/-- the list with the leaf at p made a split over it and a new leaf -/
theorem sp_P {c p : Nat} {kd kd' : Nat → Int32} {en : Nat → Nat} {o : Int32} (P : ps_P c kd en) (hp : p < c) (hk : kd p = 0) (ho : o ≠ 0) (h' : ∀ j, j < c + 2 → kd' j = sp_f p o 0 0 kd j) : ps_P (c + 2) kd' (sp_f p (p + 3) (p + 2) (p + 3) (fun j => sp_s p (en j))) := by
  have EN := fun j => sp_en P hp hk (j := j)
  refine ⟨by omega, ?_, ?_⟩
  · have e := EN 0
    rw [sp_sl (Nat.zero_le _), P.2.1, sp_sg hp] at e
    exact e
  · intro i hi
    rw [h' i hi]
    rcases sp_cov hp hi with e | e | ⟨j, hj, e⟩
    · subst e
      rw [sp_f1, sp_f1]
      exact ⟨by omega, by omega, fun _ => rfl, fun z => absurd rfl z⟩
    · subst e
      rw [sp_f2, sp_f2]
      exact ⟨by omega, by omega, fun _ => rfl, fun z => absurd rfl z⟩
    · subst e
      rw [EN]
      obtain ⟨a1, a2, a3, a4⟩ := P.2.2 j hj
      have b1 := sp_lt (p := p) a1
      have b2 : sp_s p (en j) ≤ c + 2 := by unfold sp_s; split <;> omega
      refine ⟨b1, b2, ?_, ?_⟩
      · intro hz
        by_cases z : j = p
        · subst z
          rw [sp_sl (Nat.le_refl _), sp_f0] at hz
          exact absurd hz ho
        · rw [sp_fs z] at hz
          rw [a3 hz, sp_s1 z]
      · intro hz
        by_cases z : j = p
        · subst z
          rw [sp_sl (Nat.le_refl _), sp_f1, sp_f2, ps_lf P hp hk, sp_sg (by omega)]
          exact ⟨by omega, by omega, rfl⟩
        · rw [sp_fs z] at hz
          obtain ⟨d1, d2, d3⟩ := a4 hz
          rw [← sp_s1 z, EN, EN, d3]
          refine ⟨?_, ?_, rfl⟩
          · unfold sp_s; split <;> omega
          · unfold sp_s; split <;> omega
theorem tr_split {c p N g : Nat} {nd en po : Nat → Nat} {root root' o : Int32} {pa fi se ori sh kd vl pa' fi' se' ori' sh' kd' vl' : Nat → Int32} (T : tr_T c nd en po root pa fi se ori sh kd vl)
    (hc : c ≤ 13) (hp : p < c) (hk : kd p = 0) (ho : o = 1 ∨ o = 2) (hN : 8 ≤ N ∧ N < 15) (hN' : ∀ i, i < c → nd i ≠ N) (hg : g < 8) (hg' : ∀ i, i < c → nd i ≠ g)
    (hkd : ∀ j, j < c + 2 → kd' j = sp_f p o 0 0 kd j) (hvl : ∀ j, j < c + 2 → vl' j = sp_f p 50 (nI (nd p)) (nI g) vl j)
    (hroot : root' = if p = 0 then nI N else root)
    (hfi : ∀ j, j < c → kd j ≠ 0 → fi' (nd j) = if j + 1 = p then nI N else fi (nd j)) (hfiN : fi' N = nI (nd p))
    (hse : ∀ j, j < c → kd j ≠ 0 → se' (nd j) = if en (j + 1) = p then nI N else se (nd j)) (hseN : se' N = nI g)
    (hpa : ∀ j, j < c → j ≠ p → pa' (nd j) = pa (nd j)) (hpaN : pa' N = pa (nd p)) (hpaf : pa' (nd p) = nI N) (hpag : pa' g = nI N)
    (hori : ∀ n, n ≠ N → ori' n = ori n) (horiN : ori' N = o) (hsh : ∀ n, n ≠ N → sh' n = sh n) (hshN : sh' N = 50) :
    tr_T (c + 2) (sp_f p N (nd p) g nd) (sp_f p (p + 3) (p + 2) (p + 3) (fun j => sp_s p (en j))) (fun n => if n = N then p else if n = nd p then p + 1 else if n = g then p + 2 else sp_s p (po n)) root' pa' fi' se' ori' sh' kd' vl' := by
  obtain ⟨P, T2, T3, T4, T5, T6, T7⟩ := id T
  have EN := fun j => sp_en P hp hk (j := j)
  have ho0 : o ≠ 0 := by rcases ho with h | h <;> subst h <;> decide
  have NDq : ∀ q, sp_f p N (nd p) g nd (sp_s p q) = if q = p then N else nd q := by
    intro q
    by_cases z : q = p
    · subst z; rw [sp_sl (Nat.le_refl _), sp_f0, if_pos rfl]
    · rw [sp_fs z, if_neg z]
  have ipn : ∀ j, j < c → nd j = nd p → j = p := fun j hj e => tr_inj T hj hp e
  refine ⟨sp_P P hp hk ho0 hkd, by omega, ?_, ?_, ?_, ?_, ?_⟩
  · have e := NDq 0
    rw [sp_sl (Nat.zero_le _)] at e
    rw [hroot, e, T3]
    by_cases z : p = 0
    · rw [if_pos z, if_pos z.symm]
    · rw [if_neg z, if_neg (fun h => z h.symm)]
  · have e := NDq 0
    rw [sp_sl (Nat.zero_le _)] at e
    rw [e]
    by_cases z : 0 = p
    · subst z; rw [if_pos rfl, hpaN, T4]
    · rw [if_neg z, hpa 0 P.1 z, T4]
  · intro i hi
    rw [hkd i hi, hvl i hi]
    rcases sp_cov hp hi with e | e | ⟨j, hj, e⟩
    · subst e; rw [sp_f1]; exact Or.inl rfl
    · subst e; rw [sp_f2]; exact Or.inl rfl
    · subst e
      by_cases z : j = p
      · subst z
        rw [sp_sl (Nat.le_refl _), sp_f0, sp_f0]
        exact Or.inr ⟨ho, 50, by omega, by omega, rfl⟩
      · rw [sp_fs z, sp_fs z]; exact T5 j hj
  · intro i hi
    unfold tr_t
    try dsimp only
    rw [hkd i hi, hvl i hi]
    rcases sp_cov hp hi with e | e | ⟨j, hj, e⟩
    · subst e
      rw [sp_f1, sp_f1, sp_f1]
      have f8 := ((T6 p hp).2.2.2.1 hk).1
      have fN : nd p ≠ N := hN' p hp
      rw [if_neg fN, if_pos rfl, hori _ fN, (T6 p hp).2.2.1, hk]
      exact ⟨by omega, rfl, rfl, fun _ => ⟨f8, rfl⟩, fun z => absurd rfl z⟩
    · subst e
      rw [sp_f2, sp_f2, sp_f2]
      have gN : g ≠ N := by omega
      rw [if_neg gN, if_neg (fun h => hg' p hp h.symm), if_pos rfl, hori _ gN, T7 g (by omega) hg']
      exact ⟨by omega, rfl, rfl, fun _ => ⟨hg, rfl⟩, fun z => absurd rfl z⟩
    · subst e
      by_cases z : j = p
      · subst z
        rw [sp_sl (Nat.le_refl _), sp_f0, sp_f0, sp_f0, sp_f1, sp_f1, sp_f2, if_pos rfl, horiN, hshN, hfiN, hseN, hpaf, hpag]
        exact ⟨hN.2, rfl, rfl, fun h => absurd h ho0, fun _ => ⟨hN.1, rfl, rfl, rfl, rfl, rfl⟩⟩
      · rw [sp_fs z, sp_fs z, sp_fs z]
        obtain ⟨t1, t2, t3, t4, t5⟩ := T6 j hj
        have jN : nd j ≠ N := hN' j hj
        rw [if_neg jN, if_neg (fun h => z (ipn j hj h)), if_neg (hg' j hj), t2, hori _ jN, hsh _ jN]
        refine ⟨t1, rfl, t3, t4, ?_⟩
        intro hkj
        obtain ⟨u1, u2, u3, u4, u5, u6⟩ := t5 hkj
        obtain ⟨a1, a2, a3, a4, a5, a6⟩ := ps_nd P hj hkj
        have e1 : sp_f p (p + 3) (p + 2) (p + 3) (fun j => sp_s p (en j)) (sp_s p j + 1) = sp_s p (en (j + 1)) := by rw [← sp_s1 z]; exact EN _
        rw [e1, ← sp_s1 z, NDq, NDq, hfi j hj hkj, hse j hj hkj]
        refine ⟨u1, u2, ?_, ?_, ?_, ?_⟩
        · by_cases y : j + 1 = p
          · rw [if_pos y, if_pos y]
          · rw [if_neg y, if_neg y]; exact u3
        · by_cases y : en (j + 1) = p
          · rw [if_pos y, if_pos y]
          · rw [if_neg y, if_neg y]; exact u4
        · by_cases y : j + 1 = p
          · rw [if_pos y, hpaN, ← y]; exact u5
          · rw [if_neg y, hpa _ a5 y]; exact u5
        · by_cases y : en (j + 1) = p
          · rw [if_pos y, hpaN, ← y]; exact u6
          · rw [if_neg y, hpa _ a6 y]; exact u6
  · intro n hn h
    have nN : n ≠ N := by
      intro e
      have := h p (by omega)
      rw [sp_f0] at this
      exact this e.symm
    rw [hori n nN]
    apply T7 n hn
    intro i hi e
    by_cases z : i = p
    · subst z
      have := h (i + 1) (by omega)
      rw [sp_f1] at this
      exact this e
    · have := h (sp_s p i) (by unfold sp_s; split <;> omega)
      rw [sp_fs z] at this
      exact this e
