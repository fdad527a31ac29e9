/-! the reference's cells -/
def us_sx (SA : Nat → Int64) (x : us_St) : Prop := SA 0 = us_bl x.1 ∧ SA 1 = us_bl x.2.1 ∧ SA 2 = x.2.2.1 ∧ SA 3 = x.2.2.2.1 ∧ SA 4 = x.2.2.2.2.1 ∧ SA 5 = x.2.2.2.2.2.1 ∧ SA 6 = x.2.2.2.2.2.2.1 ∧ SA 7 = x.2.2.2.2.2.2.2
theorem us_cmp_le {x y : Int64} : lg_cmp x y ≤ 0 ↔ x ≤ y := by
  unfold lg_cmp
  split <;> rename_i h1
  · constructor
    · intro h; exact absurd h (by decide)
    · intro h; exact absurd h1 (Int64.not_lt.mpr h)
  · split <;> rename_i h2
    · exact ⟨fun _ => Int64.not_lt.mp h1, fun _ => by decide⟩
    · exact ⟨fun _ => Int64.not_lt.mp h1, fun _ => by decide⟩
/-- what came, without forms -/
def us_cm (C1 C2 C3 : Nat → Int32) (l : List us_Ev) : Prop := ∀ (i : Nat) (e : us_Ev), l[i]? = some e → C1 i = nI e.1 ∧ C2 i = e.2.2.1 ∧ C3 i = e.2.2.2
theorem us_cm_put {T A B : Nat → Int32} {l : List us_Ev} (h : us_cm T A B l) (e : us_Ev) {n : Nat} (hn : n = l.length) : us_cm (upd T n (nI e.1)) (upd A n e.2.2.1) (upd B n e.2.2.2) (l ++ [e]) := by
  subst hn
  intro i z hz
  by_cases hi : i < l.length
  · rw [List.getElem?_append_left hi] at hz
    have hne : i ≠ l.length := by omega
    simp only [upd, if_neg hne]
    exact h i z hz
  · rw [List.getElem?_append_right (by omega)] at hz
    have hlt := (List.getElem?_eq_some_iff.mp hz).1
    simp only [List.length_singleton] at hlt
    have hi' : i = l.length := by omega
    subst hi'
    simp only [Nat.sub_self, List.getElem?_cons_zero, Option.some.injEq] at hz
    subst hz
    simp [upd]
def us_ms (l : List us_Ev) : Nat := (l.map (fun e => 2 ^ (4 - e.2.1) - 1)).sum
theorem us_ms_app (l l' : List us_Ev) : us_ms (l ++ l') = us_ms l + us_ms l' := by simp [us_ms]
theorem us_ms_len : ∀ {l : List us_Ev}, (∀ z ∈ l, z.2.1 ≤ 3) → l.length ≤ us_ms l
  | [], _ => Nat.zero_le _
  | e :: l, h => by
    have h1 := us_ms_len (l := l) (fun z hz => h z (by simp [hz]))
    have h2 : e.2.1 ≤ 3 := h e (by simp)
    have h3 : us_ms (e :: l) = 2 ^ (4 - e.2.1) - 1 + us_ms l := by simp [us_ms]
    have h4 : 2 ≤ 2 ^ (4 - e.2.1) := by
      obtain ⟨k, hk⟩ : ∃ k, 4 - e.2.1 = k + 1 := ⟨3 - e.2.1, by omega⟩
      rw [hk, Nat.pow_succ]
      have := Nat.one_le_two_pow (n := k)
      omega
    rw [List.length_cons, h3]
    omega
theorem us_ms_up (KD KS : Nat → Int32) {e : us_Ev} (h1 : 1 ≤ e.2.1) (h3 : e.2.1 < 3) : us_ms (us_up1 KD KS e).reverse < us_ms [e] := by
  have hf := us_up1_form KD KS e
  have hl := us_up1_len KD KS e
  generalize us_up1 KD KS e = l at hf hl
  have h0 : us_ms [e] = 2 ^ (4 - e.2.1) - 1 := by simp [us_ms]
  have hr : us_ms l.reverse = us_ms l := by simp [us_ms, List.sum_reverse]
  rw [hr, h0]
  have hc : e.2.1 = 1 ∨ e.2.1 = 2 := by omega
  match l, hf, hl with
  | [], _, _ => rcases hc with hc | hc <;> rw [hc] <;> decide
  | [a], hf, _ =>
    have ha := hf a (by simp)
    rcases hc with hc | hc <;> rw [hc] at ha ⊢ <;> simp [us_ms, ha]
  | [a, b], hf, _ =>
    have ha := hf a (by simp)
    have hb := hf b (by simp)
    rcases hc with hc | hc <;> rw [hc] at ha hb ⊢ <;> simp [us_ms, ha, hb]
  | a :: b :: c :: l, _, hl => simp at hl
/-- does all fit -/
def us_af : us_St → List us_Ev → Bool
  | _, [] => true
  | x, e :: l => us_fits x e.1 e.2.2.1 && us_af (us_f1 x e) l
theorem us_af_app : ∀ (l l' : List us_Ev) (x : us_St), us_af x (l ++ l') = (us_af x l && us_af (us_fold x l) l')
  | [], _, _ => by simp [us_af, us_fold]
  | e :: l, l', x => by
    show (us_fits x e.1 e.2.2.1 && us_af (us_f1 x e) (l ++ l')) = (us_fits x e.1 e.2.2.1 && us_af (us_f1 x e) l && us_af (us_fold (us_f1 x e) l) l')
    rw [us_af_app l l', Bool.and_assoc]
theorem us_af_take {l : List us_Ev} {i : Nat} {e : us_Ev} (x : us_St) (h : l[i]? = some e) : us_af x (l.take (i + 1)) = (us_af x (l.take i) && us_fits (us_fold x (l.take i)) e.1 e.2.2.1) := by
  rw [List.take_succ, us_af_app, h]
  simp [us_af]
theorem us_sh1 (a : Int32) : a >>> ((1 : Int32) &&& 31) = a >>> 1 := by
  rw [show ((1 : Int32) &&& 31) = 1 from by decide]
