/-! the log: its arrays hold the events es and the streams st -/
def us_log (T F U V S K Z : Nat → Int32) (n : Nat) (es : List us_Ev) (st : Nat → Nat) : Prop :=
  us_row T F U V es ∧ n = es.length ∧ n ≤ 64 ∧ (∀ p, p < n → S p = nI (st p) ∧ st p < 8) ∧ (∀ p, p < n → K p = nI (us_num st (st p) p)) ∧ (∀ s, s < 8 → Z s = nI (us_num st s n)) ∧ ∀ z ∈ es, z.1 < 6 ∧ 1 ≤ z.2.1 ∧ z.2.1 ≤ 3
def us_ov (st : Nat → Nat) (n j : Nat) : Nat → Nat := fun p => if p = n then j else st p
def us_at (es : List us_Ev) (p : Nat) : us_Ev := es.getD p (0, 0, 0, 0)
theorem us_at_of {es : List us_Ev} {i : Nat} {e : us_Ev} (h : es[i]? = some e) : us_at es i = e := by
  unfold us_at; rw [List.getD_eq_getElem?_getD, h]; rfl
theorem us_num_s {st : Nat → Nat} {s n : Nat} : us_num st s (n + 1) = us_num st s n + if st n = s then 1 else 0 := rfl
theorem us_fr_skip {KD KS : Nat → Int32} {ev : Nat → us_Ev} {st : Nat → Nat} {j w v i : Nat} {x0 : us_St} (h1 : st i < 8) (h2 : j < 8) (h3 : i ≤ 64) (h4 : w ≤ 64) (h5 : v ≤ 64)
    (h : ¬ nI (st i) = nI j ∨ nI (us_num st (st i) i) < nI w ∨ nI v ≤ nI (us_num st (st i) i)) : us_fr KD KS ev st j w v x0 (i + 1) = us_fr KD KS ev st j w v x0 i := by
  have hl := us_num_le st (st i) i
  show (if st i = j ∧ w ≤ us_num st j i ∧ us_num st j i < v then _ else _) = _
  rw [if_neg]
  rintro ⟨q1, q2, q3⟩
  subst q1
  rcases h with h | h | h
  · exact h rfl
  · exact absurd h (nI_nlt q2 (by omega))
  · exact absurd h (nI_ge q3 (by omega))
theorem us_fr_go {KD KS : Nat → Int32} {ev : Nat → us_Ev} {st : Nat → Nat} {j w v i : Nat} {x0 : us_St} (h1 : st i < 8) (h2 : j < 8) (h3 : i ≤ 64) (h4 : w ≤ 64) (h5 : v ≤ 64)
    (e1 : nI (st i) = nI j) (e2 : ¬ nI (us_num st (st i) i) < nI w) (e3 : ¬ nI v ≤ nI (us_num st (st i) i)) : us_fr KD KS ev st j w v x0 (i + 1) = us_fold (us_fr KD KS ev st j w v x0 i) (us_up KD KS (ev i)) := by
  have hl := us_num_le st (st i) i
  have q1 : st i = j := (nI_eq (by omega) (by omega)).mp e1
  subst q1
  show (if st i = st i ∧ w ≤ us_num st (st i) i ∧ us_num st (st i) i < v then _ else _) = _
  have a1 : w ≤ us_num st (st i) i := by
    rcases Nat.lt_or_ge (us_num st (st i) i) w with z | z
    · exact absurd (nI_lt z (by omega)) e2
    · exact z
  have a2 : us_num st (st i) i < v := by
    rcases Nat.lt_or_ge (us_num st (st i) i) v with z | z
    · exact z
    · exact absurd (nI_le z (by omega)) e3
  rw [if_pos ⟨rfl, a1, a2⟩]
theorem us_ov_s (st : Nat → Nat) (n j : Nat) : us_ov st n j n = j := if_pos rfl
theorem us_ov_n {st : Nat → Nat} {n j p : Nat} (h : ¬ p = n) : us_ov st n j p = st p := if_neg h
theorem us_upd_s (f : Nat → Int32) (n : Nat) (x : Int32) : upd f n x n = x := if_pos rfl
theorem us_upd_n {f : Nat → Int32} {n p : Nat} {x : Int32} (h : ¬ p = n) : upd f n x p = f p := if_neg h
theorem us_log_app {T F U V S K Z : Nat → Int32} {n : Nat} {es : List us_Ev} {st : Nat → Nat} (h : us_log T F U V S K Z n es st) (e : us_Ev) (he : e.1 < 6 ∧ 1 ≤ e.2.1 ∧ e.2.1 ≤ 3) {j : Nat} (hj : j < 8) (hn : n < 64) :
    us_log (upd T n (nI e.1)) (upd F n (nI e.2.1)) (upd U n e.2.2.1) (upd V n e.2.2.2) (upd S n (nI j)) (upd K n (Z j)) (upd Z j (Z j + 1)) (n + 1) (es ++ [e]) (us_ov st n j) := by
  obtain ⟨h1, h2, h3, h4, h5, h6, h7⟩ := h
  have hx : ∀ (s p : Nat), p ≤ n → us_num (us_ov st n j) s p = us_num st s p := fun s p hp => us_num_ext (fun q hq => by simp [us_ov]; omega)
  refine ⟨us_row_put h1 e h2, by simp [h2], by omega, fun p hp => ?_, fun p hp => ?_, fun s hs => ?_, fun z hz => ?_⟩
  · by_cases hpn : p = n
    · subst hpn; rw [us_upd_s, us_ov_s]; exact ⟨rfl, hj⟩
    · rw [us_upd_n hpn, us_ov_n hpn]; exact h4 p (by omega)
  · by_cases hpn : p = n
    · subst hpn
      rw [us_upd_s, us_ov_s, hx _ _ (Nat.le_refl _), h6 j hj]
    · rw [us_upd_n hpn, us_ov_n hpn, hx _ _ (by omega), h5 p (by omega)]
  · rw [us_num_s, hx _ _ (Nat.le_refl _), us_ov_s]
    by_cases hsj : s = j
    · subst hsj
      rw [us_upd_s, if_pos rfl, h6 s hs, nI_1]
    · rw [us_upd_n hsj, if_neg (fun q => hsj q.symm), h6 s hs]
      rfl
  · rcases List.mem_append.mp hz with hz | hz
    · exact h7 z hz
    · rw [List.mem_singleton] at hz; subst hz; exact he
/-- the batch against a state: the first that doesn't fit, and the state then -/
def us_try (KD KS : Nat → Int32) (od : Int64) : us_St → List us_Ev → Nat → Int32 × us_St
  | x, [], _ => (-1, x)
  | x, e :: l, i => if (us_fold x (us_up KD KS e)).2.2.2.2.2.2.1 = od then us_try KD KS od (us_fold x (us_up KD KS e)) l (i + 1) else (nI i, us_fold x (us_up KD KS e))
theorem us_try_at {KD KS : Nat → Int32} {od : Int64} {x : us_St} {l : List us_Ev} {i : Nat} {e : us_Ev} (h : l[i]? = some e) : us_try KD KS od x (l.drop i) i =
    if (us_fold x (us_up KD KS e)).2.2.2.2.2.2.1 = od then us_try KD KS od (us_fold x (us_up KD KS e)) (l.drop (i + 1)) (i + 1) else (nI i, us_fold x (us_up KD KS e)) := by
  obtain ⟨hi, rfl⟩ := List.getElem?_eq_some_iff.mp h
  rw [List.drop_eq_getElem_cons hi]
  rfl
theorem us_try_end {KD KS : Nat → Int32} {od : Int64} {x : us_St} {l : List us_Ev} {i : Nat} (h : l.length ≤ i) : us_try KD KS od x (l.drop i) i = (-1, x) := by
  rw [List.drop_of_length_le h]; rfl
