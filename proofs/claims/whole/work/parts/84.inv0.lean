/-- the first state -/
theorem inv0 : Inv pr_cnt0 pr_s0 := by
  have g0 : pr_cnt0 0 = 1 := rfl
  have g1 : pr_cnt0 1 = 0 := rfl
  have g2 : pr_cnt0 2 = 0 := rfl
  refine ⟨⟨0, by omega, rfl, rfl⟩, ⟨⟨5, by omega, rfl⟩, rfl, rfl, rfl, rfl⟩, ⟨0, by omega, rfl, rfl, fun k hk => absurd hk (by omega)⟩, fun k hk => rfl, ⟨by rw [g0]; omega, by rw [g0]; omega, rfl, rfl, fun i hi => ?_, fun i hi hi2 => ?_⟩, ⟨by rw [g1]; omega, rfl, rfl, fun i hi => absurd hi (by rw [g1]; omega), fun i _ _ => rfl⟩, ⟨by rw [g2]; omega, rfl, rfl, fun p hp => absurd hp (by rw [g2]; omega)⟩, fun p hp => absurd hp (by rw [g2]; omega), fun p hp => absurd hp (by rw [g2]; omega), ⟨fun p hp => absurd hp (by rw [g2]; omega), fun p hp => absurd hp (by rw [g2]; omega), fun p _ _ k _ => rfl, rfl⟩, fun p hp => absurd hp (by rw [g2]; omega), fun r hr => ?_, ⟨0, by omega, rfl, rfl, fun i hi => absurd hi (by omega), fun i hi => absurd hi (by omega), fun i hi => absurd hi (by omega), fun i hi => absurd hi (by omega), fun a b c d => ⟨fun ⟨i, hi, _⟩ => absurd hi (by omega), fun ⟨i, hi, _⟩ => absurd hi (by omega)⟩, fun i j hi => absurd hi (by omega), fun i j hi => absurd hi (by omega), fun p hp => absurd hp (by rw [g2]; omega)⟩⟩
  · rw [g0] at hi
    obtain rfl : i = 0 := by omega
    exact ⟨rfl, rfl, rfl, ⟨0, by omega, rfl⟩, Or.inl rfl⟩
  · simp [pr_s0, hi2]
  · simp [pr_s0, hr]
