theorem us_2j {j : Nat} (h : j < 8) : 2 * nI j = nI (2 * j) := by
  have key : ∀ j, j < 8 → 2 * nI j = nI (2 * j) := by decide
  exact key j h
theorem us_5i {i : Nat} (h : i < 17) : 5 * nI i = nI (5 * i) := by
  have key : ∀ i, i < 17 → 5 * nI i = nI (5 * i) := by decide
  exact key i h
theorem us_p0 (j : Nat) : nI j + 0 = nI j := nI_add j 0
theorem us_ml_hi {S T F U V : Nat → Int32} {n p : Nat} {es : List us_Ev} {st : Nat → Nat} (h : us_ml S T F U V n es st) (hp : 64 ≤ p) (a b c d : Int32) : us_ml S (upd T p a) (upd F p b) (upd U p c) (upd V p d) n es st := by
  refine ⟨fun i e he => ?_, h.2⟩
  have hi := (List.getElem?_eq_some_iff.mp he).1
  have h2 := h.2.1
  have h3 := h.2.2.1
  have hne : ¬ i = p := by omega
  rw [us_upd_n hne, us_upd_n hne, us_upd_n hne, us_upd_n hne]
  exact h.1 i e he
theorem us_mb_put {T F U V : Nat → Int32} {un : Nat} {bs : List us_Ev} (h : us_mb T F U V un bs) (hn : un < 4) (e : us_Ev) (he : us_ok e) : us_mb (upd T (64 + un) (nI e.1)) (upd F (64 + un) (nI e.2.1)) (upd U (64 + un) e.2.2.1) (upd V (64 + un) e.2.2.2) (un + 1) (bs ++ [e]) := by
  obtain ⟨h1, h2, h3, h4⟩ := h
  have key : ∀ (f : Nat → Int32) (x : Int32), (fun i => upd f (64 + un) x (64 + i)) = upd (fun i => f (64 + i)) un x := fun f x => by
    funext i
    by_cases hi : i = un
    · rw [hi, us_upd_s, us_upd_s]
    · rw [us_upd_n (by omega), us_upd_n hi]
  refine ⟨?_, by simp [h2], by omega, fun z hz => ?_⟩
  · rw [key, key, key, key]; exact us_row_put h1 e h2
  · rcases List.mem_append.mp hz with hz | hz
    · exact h4 z hz
    · rw [List.mem_singleton] at hz; subst hz; exact he
theorem us_le_lt {x : Int32} (h : x ≤ 5) : x < 6 := by
  rw [Int32.lt_iff_toInt_lt]; rw [Int32.le_iff_toInt_le] at h
  have e1 : (5 : Int32).toInt = 5 := by decide
  have e2 : (6 : Int32).toInt = 6 := by decide
  omega
theorem us_le_lt3 {x : Int32} (h : x ≤ 2) : x < 3 := by
  rw [Int32.lt_iff_toInt_lt]; rw [Int32.le_iff_toInt_le] at h
  have e1 : (2 : Int32).toInt = 2 := by decide
  have e2 : (3 : Int32).toInt = 3 := by decide
  omega
theorem us_le_lt5 {x : Int32} (h : x ≤ 4) : x < 5 := by
  rw [Int32.lt_iff_toInt_lt]; rw [Int32.le_iff_toInt_le] at h
  have e1 : (4 : Int32).toInt = 4 := by decide
  have e2 : (5 : Int32).toInt = 5 := by decide
  omega
