def us_mf (a b v : Int32) : Int32 := if 0 ≤ a ∧ a ≤ v then a else if 0 ≤ b ∧ b ≤ v then b else 0
/-- the reference's hand -/
def us_mh (A : Nat → Int32) (n : Nat) (hl : List (Nat × Nat × us_Ev)) : Prop := n = hl.length ∧ ∀ (i : Nat) (x : Nat × Nat × us_Ev), hl[i]? = some x → A (5 * i) = nI x.1 ∧ A (5 * i + 1) = nI x.2.1 ∧ A (5 * i + 2) = nI x.2.2.1 ∧ A (5 * i + 3) = x.2.2.2.2.1 ∧ A (5 * i + 4) = x.2.2.2.2.2
theorem us_mh_nil (A : Nat → Int32) : us_mh A 0 [] := ⟨rfl, fun i x h => by simp at h⟩
theorem us_mh_put {A : Nat → Int32} {n : Nat} {hl : List (Nat × Nat × us_Ev)} (h : us_mh A n hl) (p s : Nat) (e : us_Ev) : us_mh (upd (upd (upd (upd (upd A (5 * n) (nI p)) (5 * n + 1) (nI s)) (5 * n + 2) (nI e.1)) (5 * n + 3) e.2.2.1) (5 * n + 4) e.2.2.2) (n + 1) (hl ++ [(p, s, e)]) := by
  obtain ⟨h1, h2⟩ := h
  refine ⟨by simp [h1], fun i x hx => ?_⟩
  by_cases hi : i < hl.length
  · rw [List.getElem?_append_left hi] at hx
    have z := h2 i x hx
    have k : ∀ d e, d < 5 → e < 5 → ¬ 5 * i + d = 5 * n + e := fun d e hd he => by omega
    have k0 : ∀ e, e < 5 → ¬ 5 * i = 5 * n + e := fun e he => by omega
    have k1 : ∀ d, d < 5 → ¬ 5 * i + d = 5 * n := fun d he => by omega
    refine ⟨?_, ?_, ?_, ?_, ?_⟩
    · rw [us_upd_n (k0 4 (by omega)), us_upd_n (k0 3 (by omega)), us_upd_n (k0 2 (by omega)), us_upd_n (k0 1 (by omega)), us_upd_n (by omega)]; exact z.1
    · rw [us_upd_n (k 1 4 (by omega) (by omega)), us_upd_n (k 1 3 (by omega) (by omega)), us_upd_n (k 1 2 (by omega) (by omega)), us_upd_n (k 1 1 (by omega) (by omega)), us_upd_n (k1 1 (by omega))]; exact z.2.1
    · rw [us_upd_n (k 2 4 (by omega) (by omega)), us_upd_n (k 2 3 (by omega) (by omega)), us_upd_n (k 2 2 (by omega) (by omega)), us_upd_n (k 2 1 (by omega) (by omega)), us_upd_n (k1 2 (by omega))]; exact z.2.2.1
    · rw [us_upd_n (k 3 4 (by omega) (by omega)), us_upd_n (k 3 3 (by omega) (by omega)), us_upd_n (k 3 2 (by omega) (by omega)), us_upd_n (k 3 1 (by omega) (by omega)), us_upd_n (k1 3 (by omega))]; exact z.2.2.2.1
    · rw [us_upd_n (k 4 4 (by omega) (by omega)), us_upd_n (k 4 3 (by omega) (by omega)), us_upd_n (k 4 2 (by omega) (by omega)), us_upd_n (k 4 1 (by omega) (by omega)), us_upd_n (k1 4 (by omega))]; exact z.2.2.2.2
  · rw [List.getElem?_append_right (by omega)] at hx
    have hlt := (List.getElem?_eq_some_iff.mp hx).1
    simp only [List.length_singleton] at hlt
    have hi' : i = n := by omega
    subst hi'
    have e0 : i - hl.length = 0 := by omega
    rw [e0, List.getElem?_cons_zero] at hx
    obtain rfl := Option.some.inj hx
    refine ⟨?_, ?_, ?_, ?_, ?_⟩
    · rw [us_upd_n (by omega), us_upd_n (by omega), us_upd_n (by omega), us_upd_n (by omega), us_upd_s]
    · rw [us_upd_n (by omega), us_upd_n (by omega), us_upd_n (by omega), us_upd_s]
    · rw [us_upd_n (by omega), us_upd_n (by omega), us_upd_s]
    · rw [us_upd_n (by omega), us_upd_s]
    · rw [us_upd_s]
theorem us_okf {t f a b : Int32} (ht : 0 ≤ t ∧ t < 6) (h1 : 1 ≤ f) (h3 : f ≤ 3) : us_ok (t.toNatClampNeg, f.toNatClampNeg, a, b) := by
  obtain ⟨i, hi, rfl⟩ := nI_of (Int32.not_lt.mpr ht.1)
  obtain ⟨k, hk, rfl⟩ := nI_of (Int32.not_lt.mpr (Int32.le_trans (by decide) h1))
  refine ⟨?_, ?_, ?_⟩
  · show (nI i).toNatClampNeg < 6
    rw [nI_clamp hi]
    rcases Nat.lt_or_ge i 6 with z | z
    · exact z
    · exact absurd ht.2 (nI_nlt (b := 6) z hi)
  · show 1 ≤ (nI k).toNatClampNeg
    rw [nI_clamp hk]
    rcases Nat.lt_or_ge k 1 with z | z
    · have : k = 0 := by omega
      subst this; exact absurd h1 (by decide)
    · exact z
  · show (nI k).toNatClampNeg ≤ 3
    rw [nI_clamp hk]
    rcases Nat.lt_or_ge 3 k with z | z
    · exact absurd h3 (nI_ge (a := 3) z hk)
    · exact z
