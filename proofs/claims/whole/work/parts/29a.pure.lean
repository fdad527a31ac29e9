/-! what ties the two sides -/
theorem us_per_eq (y : Int32) : us_per y = us_mper y := by
  have e1 : (1 : Int32).toInt = 1 := by decide
  have e8 : (8 : Int32).toInt = 8 := by decide
  unfold us_per us_mper
  by_cases h8 : y < 8
  · rw [if_pos h8]
    rw [Int32.lt_iff_toInt_lt, e8] at h8
    have n8 : ¬ 8 < y := by rw [Int32.lt_iff_toInt_lt, e8]; omega
    rw [if_neg n8]
    by_cases h1 : y < 1
    · rw [if_pos h1]
      rw [Int32.lt_iff_toInt_lt, e1] at h1
      rw [if_neg (by rw [Int32.lt_iff_toInt_lt, e1]; omega)]
    · rw [if_neg h1]
      rw [Int32.lt_iff_toInt_lt, e1] at h1
      by_cases hq : (1 : Int32) < y
      · rw [if_pos hq]
      · rw [if_neg hq]
        rw [Int32.lt_iff_toInt_lt, e1] at hq
        exact Int32.toInt_inj.mp (by rw [e1]; omega)
  · rw [if_neg h8, if_pos (by decide)]
    rw [Int32.lt_iff_toInt_lt, e8] at h8
    rw [if_neg (by rw [Int32.lt_iff_toInt_lt, e1]; omega)]
    by_cases hq : (8 : Int32) < y
    · rw [if_pos hq]
    · rw [if_neg hq]
      rw [Int32.lt_iff_toInt_lt, e8] at hq
      exact Int32.toInt_inj.mp (by rw [e8]; omega)
theorem us_mper_ne (y : Int32) : ¬ us_mper y = 0 := by
  unfold us_mper
  by_cases h1 : y < 1
  · rw [if_pos h1]; decide
  · rw [if_neg h1]
    by_cases h8 : 8 < y
    · rw [if_pos h8]; decide
    · rw [if_neg h8]
      intro q
      exact h1 (by rw [q]; decide)
theorem us_num_more {st st1 : Nat → Nat} {j n : Nat} (h0 : ∀ p, p < n → st1 p = st p) (s : Nat) : ∀ un : Nat, (∀ p, n ≤ p → p < n + un → st1 p = j) → us_num st1 s (n + un) = us_num st s n + if s = j then un else 0
  | 0, _ => by
    show us_num st1 s n = _
    rw [us_num_ext h0]
    split <;> rfl
  | un + 1, h => by
    have ih := us_num_more h0 s un (fun p h1 h2 => h p h1 (by omega))
    show us_num st1 s (n + un) + (if st1 (n + un) = s then 1 else 0) = _
    rw [ih, h (n + un) (by omega) (by omega)]
    by_cases hs : s = j
    · rw [if_pos hs, if_pos hs.symm, if_pos hs]; omega
    · rw [if_neg hs, if_neg (fun q => hs q.symm), if_neg hs]
theorem us_at_l {es bs : List us_Ev} {p : Nat} (h : p < es.length) : us_at (es ++ bs) p = us_at es p := by
  unfold us_at
  rw [List.getD_eq_getElem?_getD, List.getD_eq_getElem?_getD, List.getElem?_append_left h]
theorem us_at_r {es bs : List us_Ev} {k : Nat} : us_at (es ++ bs) (es.length + k) = us_at bs k := by
  unfold us_at
  rw [List.getD_eq_getElem?_getD, List.getD_eq_getElem?_getD, List.getElem?_append_right (by omega)]
  congr 2
  omega
/-- a fold of no more than what had come stays as it was -/
theorem us_fs_old {KD KS : Nat → Int32} {es bs : List us_Ev} {st st1 : Nat → Nat} {n s w : Nat} (hn : n = es.length) (h0 : ∀ p, p < n → st1 p = st p) (hw : w ≤ us_num st s n) (k : Nat) : us_fs KD KS (us_at (es ++ bs)) st1 s w (n + k) = us_fs KD KS (us_at es) st s w n := by
  rw [us_fs_stop (by rw [us_num_ext h0]; exact hw) k]
  exact us_fs_ext (fun p hp => ⟨h0 p hp, us_at_l (by omega)⟩)
/-- the batch folded behind the log -/
theorem us_fs_new {KD KS : Nat → Int32} {es bs : List us_Ev} {st st1 : Nat → Nat} {n j v : Nat} (hn : n = es.length) (h0 : ∀ p, p < n → st1 p = st p) : ∀ k : Nat, k ≤ bs.length → us_num st j n + k ≤ v → (∀ p, n ≤ p → p < n + k → st1 p = j) →
    us_fs KD KS (us_at (es ++ bs)) st1 j v (n + k) = (bs.take k).foldl (fun x e => us_fold x (us_up KD KS e)) (us_fs KD KS (us_at es) st j (us_num st j n) n)
  | 0, _, hv, _ => by
    rw [List.take_zero]
    show us_fs KD KS (us_at (es ++ bs)) st1 j v n = us_fs KD KS (us_at es) st j (us_num st j n) n
    rw [us_fs_ext (fun p hp => ⟨h0 p hp, us_at_l (by omega)⟩)]
    exact us_fs_same (by omega) (Nat.le_refl _)
  | k + 1, hk, hv, h1 => by
    have ih := us_fs_new (KD := KD) (KS := KS) (bs := bs) (v := v) hn h0 k (by omega) (by omega) (fun p a b => h1 p a (by omega))
    have hm := us_num_more h0 j k (fun p a b => h1 p a (by omega))
    rw [if_pos rfl] at hm
    obtain ⟨e1, hg⟩ : ∃ e1, bs[k]? = some e1 := ⟨bs[k]'(by omega), List.getElem?_eq_getElem (by omega)⟩
    have hat : us_at (es ++ bs) (n + k) = e1 := by rw [hn]; exact us_at_r.trans (us_at_of hg)
    show us_fs KD KS (us_at (es ++ bs)) st1 j v (n + k + 1) = _
    rw [us_fs_go ⟨h1 (n + k) (by omega) (by omega), by omega⟩, ih, List.take_succ, hg, List.foldl_append, hat]
    rfl
/-- a batch that fits is folded whole -/
theorem us_try_all {KD KS : Nat → Int32} {od : Int64} : ∀ (l : List us_Ev) (x : us_St) (i : Nat), i + l.length ≤ 4 → (us_try KD KS od x l i).1 = -1 → (us_try KD KS od x l i).2 = l.foldl (fun x e => us_fold x (us_up KD KS e)) x
  | [], _, _, _, _ => rfl
  | e :: l, x, i, hi, h => by
    have hd : us_try KD KS od x (e :: l) i = if (us_fold x (us_up KD KS e)).2.2.2.2.2.2.1 = od then us_try KD KS od (us_fold x (us_up KD KS e)) l (i + 1) else (nI i, us_fold x (us_up KD KS e)) := rfl
    rw [List.length_cons] at hi
    by_cases hc : (us_fold x (us_up KD KS e)).2.2.2.2.2.2.1 = od
    · rw [hd, if_pos hc] at h ⊢
      exact us_try_all l _ (i + 1) (by omega) h
    · rw [hd, if_neg hc] at h
      exact absurd h (us_nm1 (by omega))
