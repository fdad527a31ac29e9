def us_ok (z : us_Ev) : Prop := z.1 < 6 ∧ 1 ≤ z.2.1 ∧ z.2.1 ≤ 3
/-- the reference's log and its batch -/
def us_ml (S T F U V : Nat → Int32) (n : Nat) (es : List us_Ev) (st : Nat → Nat) : Prop := us_row T F U V es ∧ n = es.length ∧ n ≤ 64 ∧ (∀ p, p < n → S p = nI (st p) ∧ st p < 8) ∧ ∀ z ∈ es, us_ok z
def us_mb (T F U V : Nat → Int32) (un : Nat) (bs : List us_Ev) : Prop := us_row (fun i => T (64 + i)) (fun i => F (64 + i)) (fun i => U (64 + i)) (fun i => V (64 + i)) bs ∧ un = bs.length ∧ un ≤ 4 ∧ ∀ z ∈ bs, us_ok z
theorem us_fs_no {KD KS : Nat → Int32} {ev : Nat → us_Ev} {st : Nat → Nat} {s v n : Nat} (h : ¬ (st n = s ∧ us_num st s n < v)) : us_fs KD KS ev st s v (n + 1) = us_fs KD KS ev st s v n := if_neg h
theorem us_fs_go {KD KS : Nat → Int32} {ev : Nat → us_Ev} {st : Nat → Nat} {s v n : Nat} (h : st n = s ∧ us_num st s n < v) : us_fs KD KS ev st s v (n + 1) = us_fold (us_fs KD KS ev st s v n) (us_up KD KS (ev n)) := if_pos h
theorem us_ml_app {S T F U V : Nat → Int32} {n : Nat} {es : List us_Ev} {st : Nat → Nat} (h : us_ml S T F U V n es st) (e : us_Ev) (he : us_ok e) {j : Nat} (hj : j < 8) (hn : n < 64) :
    us_ml (upd S n (nI j)) (upd T n (nI e.1)) (upd F n (nI e.2.1)) (upd U n e.2.2.1) (upd V n e.2.2.2) (n + 1) (es ++ [e]) (us_ov st n j) := by
  obtain ⟨h1, h2, h3, h4, h7⟩ := h
  refine ⟨us_row_put h1 e h2, by simp [h2], by omega, fun p hp => ?_, fun z hz => ?_⟩
  · by_cases hpn : p = n
    · subst hpn; rw [us_upd_s, us_ov_s]; exact ⟨rfl, hj⟩
    · rw [us_upd_n hpn, us_ov_n hpn]; exact h4 p (by omega)
  · rcases List.mem_append.mp hz with hz | hz
    · exact h7 z hz
    · rw [List.mem_singleton] at hz; subst hz; exact he
theorem us_mb_upd {T F U V : Nat → Int32} {un n : Nat} {bs : List us_Ev} (h : us_mb T F U V un bs) (hn : n < 64) (a b c d : Int32) : us_mb (upd T n a) (upd F n b) (upd U n c) (upd V n d) un bs := by
  refine ⟨fun i e he => ?_, h.2⟩
  have h1 := h.1 i e he
  have hne : ¬ 64 + i = n := by omega
  show upd T n a (64 + i) = _ ∧ upd F n b (64 + i) = _ ∧ upd U n c (64 + i) = _ ∧ upd V n d (64 + i) = _
  rw [us_upd_n hne, us_upd_n hne, us_upd_n hne, us_upd_n hne]
  exact h1
