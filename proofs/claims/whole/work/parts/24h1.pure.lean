theorem us_le0 {a : Nat} (h : a < 2 ^ 31) (c : nI a ≤ 0) : a = 0 := by
  rcases Nat.eq_zero_or_pos a with z | z
  · exact z
  · exact absurd (nI_lt (a := 0) z h) (Int32.not_lt.mpr c)
theorem us_gt0 {a : Nat} (c : ¬ nI a ≤ 0) : 0 < a := by
  rcases Nat.eq_zero_or_pos a with z | z
  · exact absurd (by rw [z]; decide) c
  · exact z
theorem us_nil_len {α : Type} {l : List α} (h : l.length = 0) : l = [] := List.eq_nil_of_length_eq_zero h
