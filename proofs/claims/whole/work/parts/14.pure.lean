/-! half of an int -/
theorem us_half (x : Int32) : (x >>> 1).toInt = x.toInt / 2 := by
  have h1 : (x >>> 1).toBitVec = x.toBitVec.sshiftRight 1 := by
    rw [Int32.toBitVec_shiftRight]; rfl
  rw [← Int32.toInt_toBitVec, h1, BitVec.toInt_sshiftRight, Int32.toInt_toBitVec, Int.shiftRight_eq_div_pow]
  rfl
theorem us_neg (x : Int32) : x < 0 ↔ x.toBitVec.msb = true := by
  rw [Int32.lt_iff_toInt_lt, Int32.toInt_zero, BitVec.msb_eq_toInt, Int32.toInt_toBitVec]
  simp
theorem us_xor2 (x : Int32) : x ^^^ 2 < 0 ↔ x < 0 := by
  rw [us_neg, us_neg, Int32.toBitVec_xor, BitVec.msb_xor]
  have : (2 : Int32).toBitVec.msb = false := by decide
  rw [this]
  simp
theorem us_div2 (x : Int32) : (x / 2).toInt = x.toInt.tdiv 2 := Int32.toInt_div_of_ne_right x 2 (by decide)
theorem us_rng (x : Int32) : -2147483648 ≤ x.toInt ∧ x.toInt < 2147483648 := by
  have h1 := Int32.le_toInt x
  have h2 := Int32.toInt_lt x
  omega
theorem us_td (z : Int) : (0 ≤ z ∧ z.tdiv 2 = z / 2) ∨ (z < 0 ∧ z.tdiv 2 = -((-z) / 2)) := by
  by_cases h : 0 ≤ z
  · exact Or.inl ⟨h, Int.tdiv_eq_ediv_of_nonneg h⟩
  · refine Or.inr ⟨by omega, ?_⟩
    have e1 : z.tdiv 2 = -((-z).tdiv 2) := by rw [Int.neg_tdiv]; omega
    rw [e1, Int.tdiv_eq_ediv_of_nonneg (by omega)]
theorem us_fdA {x : Int32} (h : ¬ x ^^^ 2 < 0) : (x / (2 : Int32)) = x >>> (1 : Int32) := by
  rw [us_xor2, Int32.lt_iff_toInt_lt, Int32.toInt_zero] at h
  refine Int32.toInt_inj.mp ?_
  rw [us_half, us_div2, Int.tdiv_eq_ediv_of_nonneg (by omega)]
theorem us_mul2 (x : Int32) : (x / 2 * 2).toInt = x.toInt.tdiv 2 * 2 := by
  have h := us_rng x
  rw [Int32.toInt_mul, us_div2, show (2 : Int32).toInt = 2 from by decide]
  rcases us_td x.toInt with ⟨h1, h2⟩ | ⟨h1, h2⟩ <;> rw [h2] <;> rw [Int.bmod_eq_of_le (by omega) (by omega)]
theorem us_fdB {x : Int32} (h : x / 2 * 2 = x) : (x / (2 : Int32)) = x >>> (1 : Int32) := by
  have h0 : (x / 2 * 2).toInt = x.toInt := by rw [h]
  rw [us_mul2] at h0
  refine Int32.toInt_inj.mp ?_
  rw [us_half, us_div2]
  omega
theorem us_fdC {x : Int32} (hn : x ^^^ 2 < 0) (h : ¬ x / 2 * 2 = x) : (x / (2 : Int32)) - (1 : Int32) = x >>> (1 : Int32) := by
  rw [us_xor2, Int32.lt_iff_toInt_lt, Int32.toInt_zero] at hn
  have h0 : ¬ (x / 2 * 2).toInt = x.toInt := fun q => h (Int32.toInt_inj.mp q)
  rw [us_mul2] at h0
  have hr := us_rng x
  refine Int32.toInt_inj.mp ?_
  rw [us_half, Int32.toInt_sub, us_div2, show (1 : Int32).toInt = 1 from by decide]
  rcases us_td x.toInt with ⟨h1, h2⟩ | ⟨h1, h2⟩ <;> rw [h2] at h0 ⊢ <;> rw [Int.bmod_eq_of_le (by omega) (by omega)] <;> omega
theorem us_tk {es : List us_Ev} {i : Nat} {e : us_Ev} {KD KS : Nat → Int32} (h : es[i]? = some e) : (es.take (i + 1)).flatMap (us_up1 KD KS) = (es.take i).flatMap (us_up1 KD KS) ++ us_up1 KD KS e := by
  rw [List.take_succ, h, List.flatMap_append]
  simp
theorem us_nilrow {T F A B : Nat → Int32} {l l' : List us_Ev} (h : us_row T F A B l) (e : l' = []) : us_row T F A B (l ++ l') := by rw [e, List.append_nil]; exact h
theorem us_nillen {n : Nat} {l' : List us_Ev} (e : l' = []) : n = n + l'.length := by rw [e]; rfl
