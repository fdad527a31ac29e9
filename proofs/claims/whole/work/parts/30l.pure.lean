/-! numbers of the law -/
theorem us_natlt {y : Int32} {k : Nat} (hk : k < 2 ^ 31) (h : 0 ≤ y ∧ y < nI k) : ∃ j : Nat, j < k ∧ y = nI j := by
  obtain ⟨j, hj, rfl⟩ := nI_of (Int32.not_lt.mpr h.1)
  exact ⟨j, (nI_ltI hj hk).mp h.2, rfl⟩
theorem us_natle {y : Int32} {k : Nat} (hk : k < 2 ^ 31) (h : 0 ≤ y ∧ y ≤ nI k) : ∃ j : Nat, j ≤ k ∧ y = nI j := by
  obtain ⟨j, hj, rfl⟩ := nI_of (Int32.not_lt.mpr h.1)
  exact ⟨j, (nI_leI hj hk).mp h.2, rfl⟩
theorem us_nat1 {y : Int32} {k : Nat} (hk : k < 2 ^ 31) (h : 1 ≤ y ∧ y ≤ nI k) : ∃ j : Nat, 1 ≤ j ∧ j ≤ k ∧ y = nI j := by
  obtain ⟨j, hj, rfl⟩ := us_natle hk ⟨Int32.le_trans (by decide) h.1, h.2⟩
  exact ⟨j, (nI_leI (a := 1) (by omega) (by omega)).mp h.1, hj, rfl⟩
theorem us_nat1l {y : Int32} {k : Nat} (hk : k < 2 ^ 31) (h : 1 ≤ y ∧ y < nI k) : ∃ j : Nat, 1 ≤ j ∧ j < k ∧ y = nI j := by
  obtain ⟨j, hj, rfl⟩ := us_natlt hk ⟨Int32.le_trans (by decide) h.1, h.2⟩
  exact ⟨j, (nI_leI (a := 1) (by omega) (by omega)).mp h.1, hj, rfl⟩
theorem us_scr {L i : Nat} (hL : L ≤ 2561) (hi : i ≤ 2566) (h : ¬ nI L - 5 < nI i) : i + 5 ≤ L := by
  rw [Int32.lt_iff_toInt_lt, Int32.toInt_sub, nI_toInt (by omega), nI_toInt (by omega), show (5 : Int32).toInt = 5 from by decide, Int.bmod_eq_of_le (by omega) (by omega)] at h
  omega
theorem us_inc5 (k : Nat) : nI k + Int32.ofInt 5 = nI (k + 5) := nI_add k 5
def us_c0 (L : Nat) (xs : Nat → Int32) : Int32 := if 0 < L then xs 0 else 0
