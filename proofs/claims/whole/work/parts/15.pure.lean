theorem us_d0 {r : Int32} {P : Prop} [Decidable P] (h : r = us_b (decide P)) (c : r = 0) : ¬ P := by
  rw [h] at c
  have := us_b0 c
  simpa using this
theorem us_d1 {r : Int32} {P : Prop} [Decidable P] (h : r = us_b (decide P)) (c : ¬ r = 0) : P := by
  rw [h] at c
  have := us_b1 c
  simpa using this
theorem us_clamp {x : Int32} (h : 0 ≤ x) : nI x.toNatClampNeg = x := by
  obtain ⟨j, hj, rfl⟩ := nI_of (Int32.not_lt.mpr h)
  rw [nI_clamp hj]
