/-! the hand -/
def us_hand (T U V P S : Nat → Int32) (n : Nat) (hl : List (Nat × Nat × us_Ev)) : Prop := n = hl.length ∧ ∀ (i : Nat) (x : Nat × Nat × us_Ev), hl[i]? = some x → T i = nI x.2.2.1 ∧ U i = x.2.2.2.2.1 ∧ V i = x.2.2.2.2.2 ∧ P i = nI x.1 ∧ S i = nI x.2.1
def us_want (t : Int32) (k : Nat) : Bool := decide (t >>> (nI k &&& 31) &&& 1 = 1)
def us_sel (t : Int32) (p s : Nat) (l : List us_Ev) : List (Nat × Nat × us_Ev) := (l.filter (fun e => us_want t e.1)).map (fun e => (p, s, e))
theorem us_hand_nil (T U V P S : Nat → Int32) : us_hand T U V P S 0 [] := ⟨rfl, fun i x h => by simp at h⟩
theorem us_hand_put {T U V P S : Nat → Int32} {n : Nat} {hl : List (Nat × Nat × us_Ev)} (h : us_hand T U V P S n hl) (p s : Nat) (e : us_Ev) : us_hand (upd T n (nI e.1)) (upd U n e.2.2.1) (upd V n e.2.2.2) (upd P n (nI p)) (upd S n (nI s)) (n + 1) (hl ++ [(p, s, e)]) := by
  obtain ⟨h1, h2⟩ := h
  refine ⟨by simp [h1], fun i x hx => ?_⟩
  by_cases hi : i < hl.length
  · rw [List.getElem?_append_left hi] at hx
    have hne : ¬ i = n := by omega
    rw [us_upd_n hne, us_upd_n hne, us_upd_n hne, us_upd_n hne, us_upd_n hne]
    exact h2 i x hx
  · rw [List.getElem?_append_right (by omega)] at hx
    have hlt := (List.getElem?_eq_some_iff.mp hx).1
    simp only [List.length_singleton] at hlt
    have hi' : i = n := by omega
    subst hi'
    have e0 : i - hl.length = 0 := by omega
    rw [e0, List.getElem?_cons_zero] at hx
    obtain rfl := Option.some.inj hx
    rw [us_upd_s, us_upd_s, us_upd_s, us_upd_s, us_upd_s]
    exact ⟨rfl, rfl, rfl, rfl, rfl⟩
theorem us_sel_succ {t : Int32} {p s i : Nat} {l : List us_Ev} {e : us_Ev} (h : l[i]? = some e) : us_sel t p s (l.take (i + 1)) = us_sel t p s (l.take i) ++ if us_want t e.1 then [(p, s, e)] else [] := by
  unfold us_sel
  rw [List.take_succ, h, List.filter_append, List.map_append]
  cases hw : us_want t e.1 <;> simp [hw]
theorem us_sel_len (t : Int32) (p s : Nat) (l : List us_Ev) : (us_sel t p s l).length ≤ l.length := by
  unfold us_sel; rw [List.length_map]; exact List.length_filter_le _ _
theorem us_sub {a b : Nat} (h : b ≤ a) : nI a - nI b = nI (a - b) := by
  have e : nI a = nI (a - b) + nI b := by rw [nI_add, Nat.sub_add_cancel h]
  rw [e, Int32.add_sub_cancel]
/-- what a poll takes: from position p on, f found -/
def us_pol (KD KS : Nat → Int32) (es : List us_Ev) (st : Nat → Nat) (ss ts : Int32) (c n : Nat) : Nat → Nat → Nat → List (Nat × Nat × us_Ev) → Nat × Nat × List (Nat × Nat × us_Ev)
  | 0, p, f, hl => (p, f, hl)
  | k + 1, p, f, hl => if p < n ∧ f < c then
      (if us_want ss (st p) = true ∧ 0 < (us_sel ts p (st p) (us_up KD KS (us_at es p))).length then us_pol KD KS es st ss ts c n k (p + 1) (f + 1) (hl ++ us_sel ts p (st p) (us_up KD KS (us_at es p))) else us_pol KD KS es st ss ts c n k (p + 1) f hl)
    else (p, f, hl)
theorem us_pol_end {KD KS : Nat → Int32} {es : List us_Ev} {st : Nat → Nat} {ss ts : Int32} {c n k p f : Nat} {hl : List (Nat × Nat × us_Ev)} (h : ¬ (p < n ∧ f < c)) : us_pol KD KS es st ss ts c n k p f hl = (p, f, hl) := by
  cases k with
  | zero => rfl
  | succ k => show (if p < n ∧ f < c then _ else _) = _; rw [if_neg h]
theorem us_pol_go {KD KS : Nat → Int32} {es : List us_Ev} {st : Nat → Nat} {ss ts : Int32} {c n k p f : Nat} {hl : List (Nat × Nat × us_Ev)} (h : p < n ∧ f < c) (g : us_want ss (st p) = true ∧ 0 < (us_sel ts p (st p) (us_up KD KS (us_at es p))).length) :
    us_pol KD KS es st ss ts c n (k + 1) p f hl = us_pol KD KS es st ss ts c n k (p + 1) (f + 1) (hl ++ us_sel ts p (st p) (us_up KD KS (us_at es p))) := by
  show (if p < n ∧ f < c then _ else _) = _; rw [if_pos h, if_pos g]
theorem us_pol_no {KD KS : Nat → Int32} {es : List us_Ev} {st : Nat → Nat} {ss ts : Int32} {c n k p f : Nat} {hl : List (Nat × Nat × us_Ev)} (h : p < n ∧ f < c) (g : ¬ (us_want ss (st p) = true ∧ 0 < (us_sel ts p (st p) (us_up KD KS (us_at es p))).length)) :
    us_pol KD KS es st ss ts c n (k + 1) p f hl = us_pol KD KS es st ss ts c n k (p + 1) f hl := by
  show (if p < n ∧ f < c then _ else _) = _; rw [if_pos h, if_neg g]
