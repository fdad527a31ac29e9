/-! The mathematical value: booleans, events, rules, states. An event: type, form, a, b. -/
def us_b (b : Bool) : Int32 := if b then 1 else 0
def us_bl (b : Bool) : Int64 := if b then 1 else 0
abbrev us_Ev : Type := Nat × Nat × Int32 × Int32
/-- open, frozen, limit, balance, top, moves, odd, check -/
abbrev us_St : Type := Bool × Bool × Int64 × Int64 × Int64 × Int64 × Int64 × Int64
def us_st0 : us_St := (false, false, 0, 0, 0, 0, 0, 0)
def us_fits (x : us_St) (t : Nat) (a : Int32) : Bool := match t with
  | 0 => !x.1
  | 1 => x.1 && !x.2.1 && decide (0 ≤ a)
  | 2 => x.1 && !x.2.1 && decide (0 ≤ a) && decide (a.toInt64 ≤ x.2.2.2.1 + x.2.2.1)
  | 3 => x.1 && !x.2.1
  | 4 => x.2.1
  | _ => x.1 && !x.2.1 && decide (x.2.2.2.1 = 0)
def us_chg (x : us_St) (t : Nat) (a : Int32) : us_St := match t with
  | 0 => (true, x.2.1, a.toInt64, 0, x.2.2.2.2)
  | 1 => (x.1, x.2.1, x.2.2.1, x.2.2.2.1 + a.toInt64, x.2.2.2.2)
  | 2 => (x.1, x.2.1, x.2.2.1, x.2.2.2.1 - a.toInt64, x.2.2.2.2)
  | 3 => (x.1, true, x.2.2)
  | 4 => (x.1, false, x.2.2)
  | _ => (false, x.2)
def us_cnt (x : us_St) (t : Nat) (a b : Int32) : us_St :=
  (x.1, x.2.1, x.2.2.1, x.2.2.2.1, (if x.2.2.2.2.1 < x.2.2.2.1 then x.2.2.2.1 else x.2.2.2.2.1), x.2.2.2.2.2.1 + 1, x.2.2.2.2.2.2.1, (x.2.2.2.2.2.2.2 * 31 + (nI t).toInt64 + 7 * a.toInt64) ^^^ b.toInt64)
def us_odd (x : us_St) : us_St := (x.1, x.2.1, x.2.2.1, x.2.2.2.1, x.2.2.2.2.1, x.2.2.2.2.2.1, x.2.2.2.2.2.2.1 + 1, x.2.2.2.2.2.2.2)
def us_f1 (x : us_St) (e : us_Ev) : us_St := if us_fits x e.1 e.2.2.1 then us_cnt (us_chg x e.1 e.2.2.1) e.1 e.2.2.1 e.2.2.2 else us_odd x
def us_fold (x : us_St) (l : List us_Ev) : us_St := l.foldl us_f1 x
theorem us_fold_app (x : us_St) (l l' : List us_Ev) : us_fold x (l ++ l') = us_fold (us_fold x l) l' := by simp [us_fold]
/-! what comes of an event -/
def us_up1 (KD KS : Nat → Int32) (e : us_Ev) : List us_Ev :=
  if KD (2 * e.1 + e.2.1 - 1) = 0 then [(e.1, e.2.1 + 1, e.2.2.1, e.2.2.2)]
  else if KD (2 * e.1 + e.2.1 - 1) = 1 then [(e.1, e.2.1 + 1, e.2.2.2, e.2.2.1)]
  else if KD (2 * e.1 + e.2.1 - 1) = 2 then [(e.1, e.2.1 + 1, e.2.2.1 * KS (2 * e.1 + e.2.1 - 1), e.2.2.2)]
  else if KD (2 * e.1 + e.2.1 - 1) = 3 then [(e.1, e.2.1 + 1, e.2.2.1, KS (2 * e.1 + e.2.1 - 1))]
  else if KD (2 * e.1 + e.2.1 - 1) = 4 then [(e.1, e.2.1 + 1, e.2.2.1 >>> 1, e.2.2.2), (e.1, e.2.1 + 1, e.2.2.1 - e.2.2.1 >>> 1, e.2.2.2)]
  else if KD (2 * e.1 + e.2.1 - 1) = 5 then [((KS (2 * e.1 + e.2.1 - 1)).toNatClampNeg, e.2.1 + 1, e.2.2.1, e.2.2.2)]
  else []
def us_lv (KD KS : Nat → Int32) : Nat → List us_Ev → List us_Ev
  | 0, l => l
  | n + 1, l => us_lv KD KS n (l.flatMap (us_up1 KD KS))
def us_up (KD KS : Nat → Int32) (e : us_Ev) : List us_Ev := us_lv KD KS (3 - e.2.1) [e]
theorem us_lv_app (KD KS : Nat → Int32) : ∀ (n : Nat) (l l' : List us_Ev), us_lv KD KS n (l ++ l') = us_lv KD KS n l ++ us_lv KD KS n l'
  | 0, _, _ => rfl
  | n + 1, l, l' => by
    show us_lv KD KS n ((l ++ l').flatMap _) = _
    rw [List.flatMap_append, us_lv_app KD KS n]
    rfl
theorem us_lv_nil (KD KS : Nat → Int32) : ∀ n : Nat, us_lv KD KS n [] = []
  | 0 => rfl
  | n + 1 => us_lv_nil KD KS n
theorem us_up1_len (KD KS : Nat → Int32) (e : us_Ev) : (us_up1 KD KS e).length ≤ 2 := by
  unfold us_up1
  repeat' split
  all_goals simp
/-- the rules are of the known kinds, and a new type is a type -/
def us_rok (KD KS : Nat → Int32) : Prop := ∀ r : Nat, r < 12 → KD r = 5 → ∃ k : Nat, k < 6 ∧ KS r = nI k
theorem us_up1_ok {KD KS : Nat → Int32} (hR : us_rok KD KS) {e : us_Ev} (ht : e.1 < 6) (hf : 1 ≤ e.2.1) (hf2 : e.2.1 < 3) : ∀ z ∈ us_up1 KD KS e, z.1 < 6 ∧ z.2.1 = e.2.1 + 1 := by
  intro z hz
  unfold us_up1 at hz
  by_cases h0 : KD (2 * e.1 + e.2.1 - 1) = 0
  · rw [if_pos h0, List.mem_singleton] at hz; subst hz; exact ⟨ht, rfl⟩
  rw [if_neg h0] at hz
  by_cases h1 : KD (2 * e.1 + e.2.1 - 1) = 1
  · rw [if_pos h1, List.mem_singleton] at hz; subst hz; exact ⟨ht, rfl⟩
  rw [if_neg h1] at hz
  by_cases h2 : KD (2 * e.1 + e.2.1 - 1) = 2
  · rw [if_pos h2, List.mem_singleton] at hz; subst hz; exact ⟨ht, rfl⟩
  rw [if_neg h2] at hz
  by_cases h3 : KD (2 * e.1 + e.2.1 - 1) = 3
  · rw [if_pos h3, List.mem_singleton] at hz; subst hz; exact ⟨ht, rfl⟩
  rw [if_neg h3] at hz
  by_cases h4 : KD (2 * e.1 + e.2.1 - 1) = 4
  · rw [if_pos h4] at hz
    simp only [List.mem_cons, List.not_mem_nil, or_false] at hz
    rcases hz with rfl | rfl <;> exact ⟨ht, rfl⟩
  rw [if_neg h4] at hz
  by_cases h5 : KD (2 * e.1 + e.2.1 - 1) = 5
  · rw [if_pos h5, List.mem_singleton] at hz
    obtain ⟨k, hk, he⟩ := hR _ (by omega) h5
    subst hz
    refine ⟨?_, rfl⟩
    show (KS (2 * e.1 + e.2.1 - 1)).toNatClampNeg < 6
    rw [he, nI_clamp (by omega)]
    exact hk
  rw [if_neg h5] at hz
  cases hz
/-- a row of events: its four arrays hold the list -/
def us_row (T F A B : Nat → Int32) (l : List us_Ev) : Prop := ∀ (i : Nat) (e : us_Ev), l[i]? = some e → T i = nI e.1 ∧ F i = nI e.2.1 ∧ A i = e.2.2.1 ∧ B i = e.2.2.2
theorem us_row_nil (T F A B : Nat → Int32) : us_row T F A B [] := fun i e h => by simp at h
theorem us_row_put {T F A B : Nat → Int32} {l : List us_Ev} (h : us_row T F A B l) (e : us_Ev) {n : Nat} (hn : n = l.length) : us_row (upd T n (nI e.1)) (upd F n (nI e.2.1)) (upd A n e.2.2.1) (upd B n e.2.2.2) (l ++ [e]) := by
  subst hn
  intro i z hz
  by_cases hi : i < l.length
  · rw [List.getElem?_append_left hi] at hz
    have hne : i ≠ l.length := by omega
    simp only [upd, if_neg hne]
    exact h i z hz
  · rw [List.getElem?_append_right (by omega)] at hz
    have hlt := (List.getElem?_eq_some_iff.mp hz).1
    simp only [List.length_singleton] at hlt
    have hi' : i = l.length := by omega
    subst hi'
    simp only [Nat.sub_self, List.getElem?_cons_zero, Option.some.injEq] at hz
    subst hz
    simp [upd]
theorem us_b0 {b : Bool} (h : us_b b = 0) : b = false := by cases b <;> simp_all [us_b]
theorem us_b1 {b : Bool} (h : ¬ us_b b = 0) : b = true := by cases b <;> simp_all [us_b]
theorem us_cmp_lt {x y : Int64} : lg_cmp x y < 0 ↔ x < y := by
  unfold lg_cmp
  split <;> rename_i h1
  · constructor
    · intro h; exact absurd h (by decide)
    · intro h; exact absurd (Int64.lt_trans h h1) (fun q => Int64.lt_irrefl q)
  · split <;> rename_i h2
    · subst h2
      constructor
      · intro h; exact absurd h (by decide)
      · intro h; exact absurd h (fun q => Int64.lt_irrefl q)
    · constructor
      · intro _
        rcases Int64.lt_or_eq_of_le (Int64.not_lt.mp h1) with h | h
        · exact h
        · exact absurd h h2
      · intro _; decide
theorem us_cmp_eq {x y : Int64} : lg_cmp x y = 0 ↔ x = y := by
  unfold lg_cmp
  split <;> rename_i h1
  · constructor
    · intro h; exact absurd h (by decide)
    · intro h; subst h; exact absurd h1 (fun q => Int64.lt_irrefl q)
  · split <;> rename_i h2
    · exact ⟨fun _ => h2, fun _ => rfl⟩
    · constructor
      · intro h; exact absurd h (by decide)
      · intro h; exact absurd h h2
