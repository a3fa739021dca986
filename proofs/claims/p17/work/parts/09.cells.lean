/-- the cells of S made blank -/
noncomputable def ce_w (S : Nat → Prop) (a : Nat → Int32) : Nat → Int32 := fun j => @ite Int32 (S j) (Classical.propDecidable (S j)) 32 (a j)
theorem ce_wt {S : Nat → Prop} {a : Nat → Int32} {j : Nat} (h : S j) : ce_w S a j = 32 := by unfold ce_w; rw [if_pos h]
theorem ce_wf {S : Nat → Prop} {a : Nat → Int32} {j : Nat} (h : ¬ S j) : ce_w S a j = a j := by unfold ce_w; rw [if_neg h]
theorem ce_we {S R : Nat → Prop} {a : Nat → Int32} (h : ∀ j, S j ↔ R j) : ce_w S a = ce_w R a := by
  have : S = R := funext fun j => propext (h j)
  rw [this]
theorem ce_w0 {S : Nat → Prop} {a : Nat → Int32} (h : ∀ j, ¬ S j) : ce_w S a = a := funext fun j => ce_wf (h j)
theorem ce_wu {S R : Nat → Prop} {a : Nat → Int32} {k : Nat} (h : ∀ j, R j ↔ S j ∨ j = k) : upd (ce_w S a) k 32 = ce_w R a := by
  funext j
  by_cases z : j = k
  · subst z; rw [pk_us, ce_wt ((h j).mpr (Or.inr rfl))]
  · rw [pk_un z]
    by_cases y : S j
    · rw [ce_wt y, ce_wt ((h j).mpr (Or.inl y))]
    · rw [ce_wf y, ce_wf (fun r => ((h j).mp r).elim y z)]
theorem ce_ww {S R : Nat → Prop} {a : Nat → Int32} : ce_w S (ce_w R a) = ce_w (fun j => S j ∨ R j) a := by
  funext j
  by_cases y : S j
  · rw [ce_wt y, ce_wt (Or.inl y)]
  · rw [ce_wf y]
    by_cases z : R j
    · rw [ce_wt z, ce_wt (Or.inr z)]
    · rw [ce_wf z, ce_wf (fun r => r.elim y z)]
/-- rows r0 to r1, columns c0 to c1 of the screen that begins at B -/
def ce_q (B r0 c0 r1 c1 j : Nat) : Prop := B ≤ j ∧ r0 ≤ (j - B) / 24 ∧ (j - B) / 24 < r1 ∧ c0 ≤ (j - B) % 24 ∧ (j - B) % 24 < c1
/-- what lies at s to i has come from 24 cells behind -/
def ce_m (a : Nat → Int32) (s i : Nat) : Nat → Int32 := fun j => if s ≤ j ∧ j < i then a (j + 24) else a j
theorem ce_m0 {a : Nat → Int32} {s : Nat} : ce_m a s s = a := by
  funext j
  unfold ce_m
  rw [if_neg (by omega)]
theorem ce_mu {a : Nat → Int32} {s i : Nat} (h : s ≤ i) : upd (ce_m a s i) i (ce_m a s i (i + 24)) = ce_m a s (i + 1) := by
  funext j
  by_cases z : j = i
  · subst z
    rw [pk_us]
    unfold ce_m
    rw [if_neg (by omega), if_pos (by omega)]
  · rw [pk_un z]
    unfold ce_m
    by_cases y : s ≤ j ∧ j < i
    · rw [if_pos y, if_pos (by omega)]
    · rw [if_neg y, if_neg (by omega)]
noncomputable def ce_c (s l : Nat) (a : Nat → Int32) : Nat → Int32 := ce_w (fun j => l ≤ j ∧ j < l + 24) (ce_m a s l)
noncomputable def ce_n (s l : Nat) : Nat → (Nat → Int32) → (Nat → Int32)
  | 0, a => a
  | n + 1, a => ce_c s l (ce_n s l n a)
/-- the screens at B are alike in both, hold chars, and are blank beyond w and h -/
def ce_R (B w h : Nat) (x y : Nat → Int32) : Prop := ∀ j, B ≤ j → j < B + 288 → x j = y j ∧ (∃ n, n < 65536 ∧ x j = nI n) ∧ ((h ≤ (j - B) / 24 ∨ w ≤ (j - B) % 24) → x j = 32)
theorem ce_Rw {B w h : Nat} {x y : Nat → Int32} {S : Nat → Prop} (R : ce_R B w h x y) : ce_R B w h (ce_w S x) (ce_w S y) := by
  intro j h1 h2
  obtain ⟨a, b, d⟩ := R j h1 h2
  by_cases z : S j
  · rw [ce_wt z, ce_wt z]; exact ⟨rfl, ⟨32, by omega, rfl⟩, fun _ => rfl⟩
  · rw [ce_wf z, ce_wf z]; exact ⟨a, b, d⟩
/-- blanked by S on one side, by R on the other, where they differ only beyond w and h -/
theorem ce_Rw2 {B w h w' h' : Nat} {x y : Nat → Int32} {S U : Nat → Prop} (R : ce_R B w h x y) (e : ∀ j, B ≤ j → j < B + 288 → (¬ S j ∧ U j → h ≤ (j - B) / 24 ∨ w ≤ (j - B) % 24) ∧ (S j → U j) ∧ ((h' ≤ (j - B) / 24 ∨ w' ≤ (j - B) % 24) → S j ∨ h ≤ (j - B) / 24 ∨ w ≤ (j - B) % 24)) : ce_R B w' h' (ce_w S x) (ce_w U y) := by
  intro j h1 h2
  obtain ⟨a, b, d⟩ := R j h1 h2
  obtain ⟨e1, e2, e3⟩ := e j h1 h2
  by_cases z : S j
  · rw [ce_wt z, ce_wt (e2 z)]; exact ⟨rfl, ⟨32, by omega, rfl⟩, fun _ => rfl⟩
  · rw [ce_wf z]
    refine ⟨?_, b, fun q => ?_⟩
    · by_cases u : U j
      · rw [ce_wt u]; exact d (e1 ⟨z, u⟩)
      · rw [ce_wf u]; exact a
    · rcases e3 q with s | s
      · exact absurd s z
      · exact d s
theorem ce_Rm {B w h t b : Nat} {x y : Nat → Int32} (R : ce_R B w h x y) (hb : b < 12) (hbh : b < h) : ce_R B w h (ce_c (B + t * 24) (B + b * 24) x) (ce_c (B + t * 24) (B + b * 24) y) := by
  intro j h1 h2
  unfold ce_c
  by_cases z : B + b * 24 ≤ j ∧ j < B + b * 24 + 24
  · rw [ce_wt z, ce_wt z]; exact ⟨rfl, ⟨32, by omega, rfl⟩, fun _ => rfl⟩
  · rw [ce_wf z, ce_wf z]
    unfold ce_m
    by_cases q : B + t * 24 ≤ j ∧ j < B + b * 24
    · rw [if_pos q, if_pos q]
      obtain ⟨a, d, f⟩ := R (j + 24) (by omega) (by omega)
      exact ⟨a, d, fun g => f (by omega)⟩
    · rw [if_neg q, if_neg q]
      exact R j h1 h2
theorem ce_Rn {B w h t b : Nat} (hb : b < 12) (hbh : b < h) : ∀ (n : Nat) {x y : Nat → Int32}, ce_R B w h x y → ce_R B w h (ce_n (B + t * 24) (B + b * 24) n x) (ce_n (B + t * 24) (B + b * 24) n y)
  | 0, _, _, R => R
  | n + 1, _, _, R => ce_Rm (ce_Rn hb hbh n R) hb hbh
theorem ce_Rp {B w h k n : Nat} {x y : Nat → Int32} (R : ce_R B w h x y) (hn : n < 65536) (h1 : B ≤ k) (h2 : (k - B) / 24 < h) (h3 : (k - B) % 24 < w) : ce_R B w h (upd x k (nI n)) (upd y k (nI n)) := by
  intro j g1 g2
  by_cases z : j = k
  · subst z
    rw [pk_us, pk_us]
    exact ⟨rfl, ⟨n, hn, rfl⟩, fun q => by omega⟩
  · rw [pk_un z, pk_un z]
    exact R j g1 g2
/-- both arrays are unchanged outside the screen at B -/
def ce_O (B : Nat) (x x' : Nat → Int32) : Prop := ∀ j, (j < B ∨ B + 288 ≤ j) → x' j = x j
theorem ce_Oo {B C w h : Nat} {x y x' y' : Nat → Int32} (hx : ce_O B x x') (hy : ce_O B y y') (hd : C + 288 ≤ B ∨ B + 288 ≤ C) (R : ce_R C w h x y) : ce_R C w h x' y' := by
  intro j h1 h2
  rw [hx j (by omega), hy j (by omega)]
  exact R j h1 h2
theorem ce_Ow {B : Nat} {x : Nat → Int32} {S : Nat → Prop} (h : ∀ j, S j → B ≤ j ∧ j < B + 288) : ce_O B x (ce_w S x) := fun j hj => ce_wf (fun z => by have := h j z; omega)
theorem ce_Oc {B t b : Nat} {x : Nat → Int32} (hb : b < 12) : ce_O B x (ce_c (B + t * 24) (B + b * 24) x) := by
  intro j hj
  unfold ce_c
  rw [ce_wf (by omega)]
  unfold ce_m
  rw [if_neg (by omega)]
theorem ce_On {B t b : Nat} (hb : b < 12) : ∀ (n : Nat) {x : Nat → Int32}, ce_O B x (ce_n (B + t * 24) (B + b * 24) n x)
  | 0, _ => fun _ _ => rfl
  | n + 1, _ => fun j hj => (ce_Oc hb j hj).trans (ce_On hb n j hj)
theorem ce_Op {B k : Nat} {x : Nat → Int32} {v : Int32} (h1 : B ≤ k) (h2 : k < B + 288) : ce_O B x (upd x k v) := fun j hj => pk_un (by omega)
theorem ce_g0 {S : Nat → Prop} {lo hi j : Nat} (h : hi ≤ lo) : S j ↔ S j ∨ (lo ≤ j ∧ j < hi) := ⟨Or.inl, fun z => z.elim id (fun q => by omega)⟩
theorem ce_g1 {S : Nat → Prop} {lo hi j : Nat} (h : lo ≤ hi) : S j ∨ (lo ≤ j ∧ j < hi + 1) ↔ (S j ∨ (lo ≤ j ∧ j < hi)) ∨ j = hi := by
  constructor
  · rintro (z | z)
    · exact Or.inl (Or.inl z)
    · by_cases e : j = hi
      · exact Or.inr e
      · exact Or.inl (Or.inr (by omega))
  · rintro ((z | z) | z)
    · exact Or.inl z
    · exact Or.inr (by omega)
    · exact Or.inr (by omega)
theorem ce_g2 {B r0 c0 c1 i j : Nat} (hc : c1 ≤ 24) (hr : r0 ≤ i) : ce_q B r0 c0 (i + 1) c1 j ↔ ce_q B r0 c0 i c1 j ∨ (B + i * 24 + c0 ≤ j ∧ j < B + i * 24 + c1) := by
  unfold ce_q
  constructor <;> intro z <;> omega
theorem ce_g3 {lo hi j : Nat} (h : lo ≤ hi) : (lo ≤ j ∧ j < hi + 1) ↔ (lo ≤ j ∧ j < hi) ∨ j = hi := by
  constructor <;> intro z <;> omega
