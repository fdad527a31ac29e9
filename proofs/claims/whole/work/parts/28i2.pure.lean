theorem us_mf_a {a b v : Int32} (h1 : ¬ a < 0) (h2 : ¬ v < a) : us_mf a b v = a := if_pos ⟨Int32.not_lt.mp h1, Int32.not_lt.mp h2⟩
theorem us_mf_n {a b v : Int32} (h : a < 0 ∨ v < a) : us_mf a b v = if 0 ≤ b ∧ b ≤ v then b else 0 := if_neg (fun q => by
  rcases h with h | h
  · exact absurd q.1 (Int32.not_le.mpr h)
  · exact absurd q.2 (Int32.not_le.mpr h))
theorem us_mf_b {a b v : Int32} (h : a < 0 ∨ v < a) (h1 : ¬ b < 0) (h2 : ¬ v < b) : us_mf a b v = b := by
  rw [us_mf_n h]; exact if_pos ⟨Int32.not_lt.mp h1, Int32.not_lt.mp h2⟩
theorem us_mf_c {a b v : Int32} (h : a < 0 ∨ v < a) (h1 : b < 0 ∨ v < b) : us_mf a b v = 0 := by
  rw [us_mf_n h]
  exact if_neg (fun q => by
    rcases h1 with h | h
    · exact absurd q.1 (Int32.not_le.mpr h)
    · exact absurd q.2 (Int32.not_le.mpr h))
