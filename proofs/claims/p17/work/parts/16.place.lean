theorem bf_p1 {c k i : Nat} {kd sh : Nat → Int32} {nd en o : Nat → Nat} {lw lh rx ry rw rh : Nat → Int32} {W0 H0 v : Int32} (P : ps_P c kd en) (ND : ∀ a b, a < c → b < c → nd a = nd b → a = b) (O : bf_O c kd en k o) (hi : i < k)
    (R : bf_R c k i kd sh nd en o lw lh rx ry rw rh W0 H0) (z : kd (o i) = 1) (hv : v = la_v (rw (nd (o i))) (sh (o i)) (lw (nd (o i + 1))) (lw (nd (en (o i + 1))))) :
    bf_R c k (i + 1) kd sh nd en o lw lh (upd (upd rx (nd (o i + 1)) (rx (nd (o i)))) (nd (en (o i + 1))) (rx (nd (o i)) + v + 1)) (upd (upd ry (nd (o i + 1)) (ry (nd (o i)))) (nd (en (o i + 1))) (ry (nd (o i)))) (upd (upd rw (nd (o i + 1)) v) (nd (en (o i + 1))) (rw (nd (o i)) - v - 1)) (upd (upd rh (nd (o i + 1)) (rh (nd (o i)))) (nd (en (o i + 1))) (rh (nd (o i)))) W0 H0 := by
  have oi := O.2.2.2.1 i hi
  have z0 := ge_10 z
  obtain ⟨a1, a2, a3, a4, a5, a6⟩ := ps_nd P oi z0
  have n12 : nd (o i + 1) ≠ nd (en (o i + 1)) := fun e => by have := ND _ _ a5 a6 e; omega
  have n01 : nd (o i) ≠ nd (o i + 1) := fun e => by have := ND _ _ oi a5 e; omega
  have n02 : nd (o i) ≠ nd (en (o i + 1)) := fun e => by have := ND _ _ oi a6 e; omega
  refine bf_R1 P ND O hi R z0 (fun n h1 h2 => ⟨by rw [pk_un h2, pk_un h1], by rw [pk_un h2, pk_un h1], by rw [pk_un h2, pk_un h1], by rw [pk_un h2, pk_un h1]⟩) ⟨fun _ => ?_, fun y => (ge_12 z y).elim⟩
  have e0 : ∀ (f : Nat → Int32) (x y : Int32), upd (upd f (nd (o i + 1)) x) (nd (en (o i + 1))) y (nd (o i)) = f (nd (o i)) := fun f x y => by rw [pk_un n02, pk_un n01]
  have e1 : ∀ (f : Nat → Int32) (x y : Int32), upd (upd f (nd (o i + 1)) x) (nd (en (o i + 1))) y (nd (o i + 1)) = x := fun f x y => by rw [pk_un n12, pk_us]
  have e2 : ∀ (f : Nat → Int32) (x y : Int32), upd (upd f (nd (o i + 1)) x) (nd (en (o i + 1))) y (nd (en (o i + 1))) = y := fun f x y => pk_us
  rw [e0, e0, e0, e0, e1, e1, e1, e1, e2, e2, e2, e2, ← hv]
  exact ⟨rfl, rfl, rfl, rfl, rfl, rfl, rfl, rfl⟩
theorem bf_p2 {c k i : Nat} {kd sh : Nat → Int32} {nd en o : Nat → Nat} {lw lh rx ry rw rh : Nat → Int32} {W0 H0 v : Int32} (P : ps_P c kd en) (ND : ∀ a b, a < c → b < c → nd a = nd b → a = b) (O : bf_O c kd en k o) (hi : i < k)
    (R : bf_R c k i kd sh nd en o lw lh rx ry rw rh W0 H0) (z : kd (o i) = 2) (hv : v = la_v (rh (nd (o i))) (sh (o i)) (lh (nd (o i + 1))) (lh (nd (en (o i + 1))))) :
    bf_R c k (i + 1) kd sh nd en o lw lh (upd (upd rx (nd (o i + 1)) (rx (nd (o i)))) (nd (en (o i + 1))) (rx (nd (o i)))) (upd (upd ry (nd (o i + 1)) (ry (nd (o i)))) (nd (en (o i + 1))) (ry (nd (o i)) + v + 1)) (upd (upd rw (nd (o i + 1)) (rw (nd (o i)))) (nd (en (o i + 1))) (rw (nd (o i)))) (upd (upd rh (nd (o i + 1)) v) (nd (en (o i + 1))) (rh (nd (o i)) - v - 1)) W0 H0 := by
  have oi := O.2.2.2.1 i hi
  have z0 := ge_20 z
  obtain ⟨a1, a2, a3, a4, a5, a6⟩ := ps_nd P oi z0
  have n12 : nd (o i + 1) ≠ nd (en (o i + 1)) := fun e => by have := ND _ _ a5 a6 e; omega
  have n01 : nd (o i) ≠ nd (o i + 1) := fun e => by have := ND _ _ oi a5 e; omega
  have n02 : nd (o i) ≠ nd (en (o i + 1)) := fun e => by have := ND _ _ oi a6 e; omega
  refine bf_R1 P ND O hi R z0 (fun n h1 h2 => ⟨by rw [pk_un h2, pk_un h1], by rw [pk_un h2, pk_un h1], by rw [pk_un h2, pk_un h1], by rw [pk_un h2, pk_un h1]⟩) ⟨fun y => (ge_12 y z).elim, fun _ => ?_⟩
  have e0 : ∀ (f : Nat → Int32) (x y : Int32), upd (upd f (nd (o i + 1)) x) (nd (en (o i + 1))) y (nd (o i)) = f (nd (o i)) := fun f x y => by rw [pk_un n02, pk_un n01]
  have e1 : ∀ (f : Nat → Int32) (x y : Int32), upd (upd f (nd (o i + 1)) x) (nd (en (o i + 1))) y (nd (o i + 1)) = x := fun f x y => by rw [pk_un n12, pk_us]
  have e2 : ∀ (f : Nat → Int32) (x y : Int32), upd (upd f (nd (o i + 1)) x) (nd (en (o i + 1))) y (nd (en (o i + 1))) = y := fun f x y => pk_us
  rw [e0, e0, e0, e0, e1, e1, e1, e1, e2, e2, e2, e2, ← hv]
  exact ⟨rfl, rfl, rfl, rfl, rfl, rfl, rfl, rfl⟩
