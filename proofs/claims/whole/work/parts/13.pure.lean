/-! small words for the contracts -/
theorem us_nb (b : Bool) : narrow .boolean (.int (us_b b)) = .int (us_b b) := by cases b <;> rfl
theorem us_fb (b : Bool) : fits .boolean (.int (us_b b)) = true := by cases b <;> rfl
def us_p6 (k : Nat) (a b c d e f : Int32) : Int32 := match k with
  | 0 => a
  | 1 => b
  | 2 => c
  | 3 => d
  | 4 => e
  | _ => f
def us_p5 (k : Nat) (a b c d e : Int32) : Int32 := match k with
  | 0 => a
  | 1 => b
  | 2 => c
  | 3 => d
  | _ => e
def us_fld (x : us_St) (w : Int32) : Int64 :=
  if w = 0 then us_bl x.1 else if w = 1 then us_bl x.2.1 else if w = 2 then x.2.2.1 else if w = 3 then x.2.2.2.1 else if w = 4 then x.2.2.2.2.1 else if w = 5 then x.2.2.2.2.2.1 else if w = 6 then x.2.2.2.2.2.2.1 else if w = 7 then x.2.2.2.2.2.2.2 else -1
def us_rest (lv ev v : Int32) (x y : us_St) : Int32 × us_St := if ¬ lv = -1 ∧ lv ≤ v then (lv, x) else if ¬ ev = -1 ∧ ev ≤ v then (ev, y) else (0, us_st0)
theorem us_take {l : List us_Ev} {i : Nat} {e : us_Ev} (x : us_St) (h : l[i]? = some e) : us_fold x (l.take (i + 1)) = us_f1 (us_fold x (l.take i)) e := by
  have hi := (List.getElem?_eq_some_iff.mp h).1
  rw [List.take_succ, us_fold_app, h]
  rfl
theorem us_take_all {l : List us_Ev} {i : Nat} (x : us_St) (h : l.length ≤ i) : us_fold x (l.take i) = us_fold x l := by rw [List.take_of_length_le h]
theorem us_maxl (t b : Int64) : (if b < t then t else b) = if t < b then b else t := by
  by_cases h1 : b < t
  · rw [if_pos h1, if_neg (fun h2 => Int64.lt_irrefl (Int64.lt_trans h1 h2))]
  · rw [if_neg h1]
    by_cases h2 : t < b
    · rw [if_pos h2]
    · rw [if_neg h2]
      exact Int64.le_antisymm (Int64.not_lt.mp h2) (Int64.not_lt.mp h1)
