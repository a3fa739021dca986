theorem in_P : ps_P 1 (fun _ => (0 : Int32)) (fun _ => 1) := by
  refine ⟨by omega, rfl, fun i hi => ⟨hi, Nat.le_refl _, fun _ => show 1 = i + 1 by omega, fun z => absurd rfl z⟩⟩
theorem in_T : tr_T 1 (fun _ => 0) (fun _ => 1) (fun _ => 0) 0 (upd (fun _ => 0) 0 (-1)) (fun _ => 0) (fun _ => 0) (fun _ => 0) (fun _ => 0) (fun _ => (0 : Int32)) (fun _ => 0) := by
  refine ⟨in_P, by omega, rfl, pk_us, fun i _ => Or.inl rfl, fun i hi => ?_, fun n _ _ => rfl⟩
  have e : i = 0 := by omega
  subst e
  exact ⟨show 0 < 15 by omega, rfl, rfl, fun _ => ⟨show 0 < 8 by omega, rfl⟩, fun z => absurd rfl z⟩
theorem in_V : lv_R 1 (fun _ => 0) (upd (fun _ => 0) 0 1) := by
  intro g hg
  by_cases z : g = 0
  · subst z
    rw [pk_us]
    exact ⟨Or.inr rfl, fun _ => ⟨0, by omega, rfl⟩, fun _ => by decide⟩
  · rw [pk_un z]
    exact ⟨Or.inl rfl, fun y => absurd rfl y, fun ⟨i, _, e⟩ => absurd e.symm z⟩
