/-! streams in the log: how many events of a stream stand before a position; the fold of a stream's first v events -/
def us_num (st : Nat → Nat) (s : Nat) : Nat → Nat
  | 0 => 0
  | n + 1 => us_num st s n + if st n = s then 1 else 0
def us_fs (KD KS : Nat → Int32) (ev : Nat → us_Ev) (st : Nat → Nat) (s v : Nat) : Nat → us_St
  | 0 => us_st0
  | n + 1 => if st n = s ∧ us_num st s n < v then us_fold (us_fs KD KS ev st s v n) (us_up KD KS (ev n)) else us_fs KD KS ev st s v n
/-- .. from a state on, those whose number is at least w -/
def us_fr (KD KS : Nat → Int32) (ev : Nat → us_Ev) (st : Nat → Nat) (s w v : Nat) (x0 : us_St) : Nat → us_St
  | 0 => x0
  | n + 1 => if st n = s ∧ w ≤ us_num st s n ∧ us_num st s n < v then us_fold (us_fr KD KS ev st s w v x0 n) (us_up KD KS (ev n)) else us_fr KD KS ev st s w v x0 n
theorem us_num_le (st : Nat → Nat) (s : Nat) : ∀ n : Nat, us_num st s n ≤ n
  | 0 => Nat.le_refl _
  | n + 1 => by
    have := us_num_le st s n
    show us_num st s n + _ ≤ _
    split <;> omega
theorem us_num_mono (st : Nat → Nat) (s : Nat) {a b : Nat} (h : a ≤ b) : us_num st s a ≤ us_num st s b := by
  induction b with
  | zero => have : a = 0 := by omega
            subst this; exact Nat.le_refl _
  | succ b ih =>
    by_cases hb : a = b + 1
    · subst hb; exact Nat.le_refl _
    · have := ih (by omega)
      show _ ≤ us_num st s b + _
      omega
theorem us_num_ext {st st' : Nat → Nat} {s : Nat} : ∀ {n : Nat}, (∀ p, p < n → st' p = st p) → us_num st' s n = us_num st s n
  | 0, _ => rfl
  | n + 1, h => by
    show us_num st' s n + _ = us_num st s n + _
    rw [us_num_ext (fun p hp => h p (by omega)), h n (by omega)]
theorem us_fs_ext {KD KS : Nat → Int32} {ev ev' : Nat → us_Ev} {st st' : Nat → Nat} {s v : Nat} : ∀ {n : Nat}, (∀ p, p < n → st' p = st p ∧ ev' p = ev p) → us_fs KD KS ev' st' s v n = us_fs KD KS ev st s v n
  | 0, _ => rfl
  | n + 1, h => by
    show (if st' n = s ∧ us_num st' s n < v then _ else _) = if st n = s ∧ us_num st s n < v then _ else _
    rw [us_fs_ext (fun p hp => h p (by omega)), us_num_ext (fun p hp => (h p (by omega)).1), (h n (by omega)).1, (h n (by omega)).2]
/-- behind position n, if v events have come by then, nothing more is folded -/
theorem us_fs_stop {KD KS : Nat → Int32} {ev : Nat → us_Ev} {st : Nat → Nat} {s v n : Nat} (h : v ≤ us_num st s n) : ∀ k : Nat, us_fs KD KS ev st s v (n + k) = us_fs KD KS ev st s v n
  | 0 => rfl
  | k + 1 => by
    show (if st (n + k) = s ∧ us_num st s (n + k) < v then _ else us_fs KD KS ev st s v (n + k)) = _
    have := us_num_mono st s (Nat.le_add_right n k)
    rw [if_neg (fun q => by omega), us_fs_stop h k]
/-- as long as no more than v and v' have come, both fold all -/
theorem us_fs_same {KD KS : Nat → Int32} {ev : Nat → us_Ev} {st : Nat → Nat} {s v v' : Nat} : ∀ {n : Nat}, us_num st s n ≤ v → us_num st s n ≤ v' → us_fs KD KS ev st s v n = us_fs KD KS ev st s v' n
  | 0, _, _ => rfl
  | n + 1, h, h' => by
    have hm : us_num st s n ≤ us_num st s (n + 1) := us_num_mono st s (Nat.le_succ n)
    show (if st n = s ∧ us_num st s n < v then _ else _) = if st n = s ∧ us_num st s n < v' then _ else _
    rw [us_fs_same (by omega : us_num st s n ≤ v) (by omega : us_num st s n ≤ v')]
    by_cases hs : st n = s
    · have e1 : us_num st s (n + 1) = us_num st s n + 1 := by show us_num st s n + _ = _; rw [if_pos hs]
      rw [if_pos ⟨hs, by omega⟩, if_pos ⟨hs, by omega⟩]
    · rw [if_neg (fun q => hs q.1), if_neg (fun q => hs q.1)]
/-- loading from a snapshot of the first w events is loading from the start -/
theorem us_fr_fs {KD KS : Nat → Int32} {ev : Nat → us_Ev} {st : Nat → Nat} {s w v N : Nat} (hwv : w ≤ v) {x0 : us_St} (hx : x0 = us_fs KD KS ev st s w N) : ∀ n : Nat, n ≤ N →
    (us_num st s n ≤ w → us_fr KD KS ev st s w v x0 n = x0) ∧ (w ≤ us_num st s n → us_fr KD KS ev st s w v x0 n = us_fs KD KS ev st s v n)
  | 0, _ => by
    refine ⟨fun _ => rfl, fun h => ?_⟩
    show x0 = us_st0
    rw [hx, show N = 0 + N by omega, us_fs_stop h N]
    rfl
  | n + 1, hn => by
    obtain ⟨i1, i2⟩ := us_fr_fs hwv hx n (by omega)
    have e0 : us_num st s (n + 1) = us_num st s n + if st n = s then 1 else 0 := rfl
    have step : us_fr KD KS ev st s w v x0 (n + 1) = if st n = s ∧ w ≤ us_num st s n ∧ us_num st s n < v then us_fold (us_fr KD KS ev st s w v x0 n) (us_up KD KS (ev n)) else us_fr KD KS ev st s w v x0 n := rfl
    have step2 : us_fs KD KS ev st s v (n + 1) = if st n = s ∧ us_num st s n < v then us_fold (us_fs KD KS ev st s v n) (us_up KD KS (ev n)) else us_fs KD KS ev st s v n := rfl
    by_cases hs : st n = s
    · rw [if_pos hs] at e0
      refine ⟨fun h => ?_, fun h => ?_⟩
      · rw [step, if_neg (fun q => by omega)]
        exact i1 (by omega)
      · by_cases hw : us_num st s n < w
        · have hw1 : us_num st s (n + 1) = w := by omega
          rw [step, if_neg (fun q => by omega), i1 (by omega), hx]
          obtain ⟨k, rfl⟩ : ∃ k, N = (n + 1) + k := ⟨N - (n + 1), by omega⟩
          rw [us_fs_stop (by omega) k]
          exact us_fs_same (by omega) (by omega)
        · rw [step, step2, i2 (by omega)]
          by_cases hv : us_num st s n < v
          · rw [if_pos ⟨hs, by omega, hv⟩, if_pos ⟨hs, hv⟩]
          · rw [if_neg (fun q => hv q.2.2), if_neg (fun q => hv q.2)]
    · rw [if_neg hs] at e0
      rw [step, step2, if_neg (fun q => hs q.1), if_neg (fun q => hs q.1)]
      exact ⟨fun h => i1 (by omega), fun h => i2 (by omega)⟩
theorem us_load {KD KS : Nat → Int32} {ev : Nat → us_Ev} {st : Nat → Nat} {s w v N : Nat} (hwv : w ≤ v) (hw : w ≤ us_num st s N) {x0 : us_St} (hx : x0 = us_fs KD KS ev st s w N) : us_fr KD KS ev st s w v x0 N = us_fs KD KS ev st s v N :=
  (us_fr_fs hwv hx N (Nat.le_refl _)).2 hw
theorem us_fs_0 {KD KS : Nat → Int32} {ev : Nat → us_Ev} {st : Nat → Nat} {s : Nat} : ∀ n : Nat, us_fs KD KS ev st s 0 n = us_st0
  | 0 => rfl
  | n + 1 => by
    show (if st n = s ∧ us_num st s n < 0 then _ else us_fs KD KS ev st s 0 n) = _
    rw [if_neg (fun q => Nat.not_lt_zero _ q.2), us_fs_0 n]
