-- the law, from its start
theorem rr0 : RR c0 d0 [] := by
  refine ⟨⟨⟨by decide, by rfl⟩, by decide +kernel, ⟨by decide, by rfl⟩, by decide +kernel, by decide +kernel, by decide +kernel, by decide +kernel, by decide +kernel, by decide +kernel, by rfl, fun i hi => absurd hi (Nat.not_lt_zero _), by decide +kernel⟩, ⟨fun i hi => Or.inl rfl, fun i hi => absurd hi (Nat.not_lt_zero _), fun i hi => absurd hi (Nat.not_lt_zero _)⟩, Or.inl ⟨rfl, rfl⟩, ⟨Nat.zero_le _, fun t ht s hs => ?_, fun s hs => rfl, fun t ht => rfl⟩, ⟨Nat.zero_le _, rfl, fun i hi => absurd hi (Nat.not_lt_zero _)⟩, ⟨rfl, Nat.zero_le _, rfl, 16, c0.pg0, Or.inl ⟨rfl, rfl, rfl⟩, Nat.zero_le _, by decide, fun i hi => absurd hi (Nat.not_lt_zero _), Or.inl rfl, fun i hi => ⟨0, by decide, by rfl⟩⟩, fun i hi => Or.inl ?_, fun i hi => Or.inl ?_⟩
  · obtain rfl : t = 0 := by have : t ≤ 0 := ht; omega
    rfl
  · have : i = 0 ∨ i = 1 ∨ i = 2 ∨ i = 3 := by omega
    rcases this with rfl | rfl | rfl | rfl <;> decide +kernel
  · have : i = 0 ∨ i = 1 ∨ i = 2 ∨ i = 3 := by omega
    rcases this with rfl | rfl | rfl | rfl <;> decide +kernel
