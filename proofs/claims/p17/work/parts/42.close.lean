theorem lv_close {c u p s : Nat} {nd en po : Nat → Nat} {root : Int32} {pa fi se ori sr kd vl lv : Nat → Int32} (T : tr_T c nd en po root pa fi se ori sr kd vl) (F : cl_F c kd en u p s) (V : lv_R c nd lv) (p8 : nd p < 8) : lv_R (c - 2) (fun j => nd (cl_r u p j)) (upd lv (nd p) 0) := by
  obtain ⟨P, f1, f2, f3, f4, f5, f6, f7, f8, f9, f10⟩ := id F
  intro x hx
  by_cases z : x = nd p
  · subst z
    rw [pk_us]
    refine ⟨Or.inl rfl, fun y => absurd rfl y, fun ⟨i, hi, e⟩ => ?_⟩
    have r := cl_rn (P := u) (p := p) (j := i) f6
    have := tr_inj T (by omega) f4 e
    exact absurd this r.2.1
  · rw [pk_un z]
    refine ⟨(V x hx).1, fun h => ?_, fun h => ?_⟩
    · obtain ⟨i, hi, e⟩ := (V x hx).2.mp h
      have ip : i ≠ p := fun y => z (by rw [← e, y])
      have iu : i ≠ u := by
        intro y
        have := ((T.2.2.2.2.2.1 u f1).2.2.2.2 f2).1
        rw [← y, e] at this
        omega
      refine ⟨cl_d u p i, cl_lt F hi ip, ?_⟩
      show nd (cl_r u p (cl_d u p i)) = x
      rw [cl_rt F ip, if_neg iu]
      exact e
    · obtain ⟨i, hi, e⟩ := h
      have r := cl_rn (P := u) (p := p) (j := i) f6
      exact (V x hx).2.mpr ⟨cl_r u p i, by omega, e⟩
