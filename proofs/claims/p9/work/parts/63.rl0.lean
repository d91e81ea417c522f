/-! THE START: both are new -/
theorem rs_0 : RS 0 c0 m0 := by
  have no : ∀ {P : Prop} {j : Nat}, j < 0 → P := fun h => absurd h (Nat.not_lt_zero _)
  refine ⟨⟨⟨Rep.nil _, Nat.zero_le _⟩, Nat.le_refl _, fun j hj => no hj, fun j hj => ?_⟩, ⟨fun j hj => no hj, fun i j _ hj => no hj, Nat.le_refl _, Nat.le_refl _⟩, ⟨rfl, rfl, rfl, Nat.le_refl _⟩, ⟨⟨Rep.nil _, fun i hi => no hi, Nat.zero_le _⟩, Rep.nil _, fun i hi => no hi⟩, ⟨fun i hi => no hi, fun j hj => no hj⟩, Nat.le_refl _, fun j _ hj => no hj, fun j hj => no hj, fun _ => rfl, fun z => (nomatch z)⟩
  have e : j = 0 := Nat.le_zero.mp hj
  subst e
  exact ⟨fc c0, 0, Nat.zero_le _, Rep.nil _⟩
theorem ci_0 : CI c0 := by
  refine ⟨fun i hi => ?_, ⟨fun j hj => Nat.zero_le _, fun d hd => ?_⟩, Nat.zero_le _, Nat.zero_le _, Nat.zero_le _⟩
  · have w9 : i = 0 ∨ i = 1 ∨ i = 2 ∨ i = 3 ∨ i = 4 ∨ i = 5 ∨ i = 6 ∨ i = 7 ∨ i = 8 ∨ i = 9 ∨ i = 10 ∨ i = 11 := by omega
    rcases w9 with rfl | rfl | rfl | rfl | rfl | rfl | rfl | rfl | rfl | rfl | rfl | rfl
    all_goals rfl
  · have w9 : d = 0 ∨ d = 1 ∨ d = 2 ∨ d = 3 := by omega
    rcases w9 with rfl | rfl | rfl | rfl
    · exact ⟨0, 1, rfl, rfl, Or.inl ⟨rfl, rfl⟩⟩
    · exact ⟨2, 3, rfl, rfl, Or.inl ⟨rfl, rfl⟩⟩
    · exact ⟨4, 5, rfl, rfl, Or.inl ⟨rfl, rfl⟩⟩
    · exact ⟨6, 7, rfl, rfl, Or.inl ⟨rfl, rfl⟩⟩
theorem rj_0 : RJ m0 := by
  refine ⟨Nat.zero_le _, fun j => Or.inr ⟨0, by decide, rfl⟩, ⟨fun j _ => ⟨0, by decide, rfl⟩, fun k hk v hv hb => ?_⟩, fun j => ⟨0, by decide, rfl⟩, Nat.zero_le _, Nat.zero_le _, fun j hj => absurd hj (Nat.not_lt_zero _)⟩
  exfalso
  have w9 : v = 0 ∨ v = 1 ∨ v = 2 ∨ v = 3 ∨ v = 4 ∨ v = 5 := by omega
  have e : m0.gv k = 0 := rfl
  rw [e] at hb
  rcases w9 with rfl | rfl | rfl | rfl | rfl | rfl
  all_goals (revert hb; decide)
theorem rl_0 : RL 0 c0 m0 := ⟨rs_0, Nat.le_refl _, ci_0, rj_0, rfl⟩
