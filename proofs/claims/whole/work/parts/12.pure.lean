/-! how many come of an event, and what they are -/
theorem us_flat_len {α β : Type} (f : α → List β) (k : Nat) (hf : ∀ x, (f x).length ≤ k) : ∀ l : List α, (l.flatMap f).length ≤ k * l.length
  | [] => by simp
  | x :: l => by
    have h1 := us_flat_len f k hf l
    have h2 := hf x
    rw [List.flatMap_cons, List.length_append, List.length_cons, Nat.mul_succ]
    omega
theorem us_lv_len (KD KS : Nat → Int32) : ∀ (n : Nat) (l : List us_Ev), (us_lv KD KS n l).length ≤ 2 ^ n * l.length
  | 0, l => by show l.length ≤ _; simp
  | n + 1, l => by
    have h1 := us_lv_len KD KS n (l.flatMap (us_up1 KD KS))
    have h2 := us_flat_len (us_up1 KD KS) 2 (us_up1_len KD KS) l
    show (us_lv KD KS n (l.flatMap (us_up1 KD KS))).length ≤ _
    calc (us_lv KD KS n (l.flatMap (us_up1 KD KS))).length ≤ 2 ^ n * (l.flatMap (us_up1 KD KS)).length := h1
      _ ≤ 2 ^ n * (2 * l.length) := Nat.mul_le_mul_left _ h2
      _ = 2 ^ (n + 1) * l.length := by rw [Nat.pow_succ, Nat.mul_assoc]
theorem us_up_len (KD KS : Nat → Int32) {e : us_Ev} (h : 1 ≤ e.2.1) : (us_up KD KS e).length ≤ 4 := by
  have h1 := us_lv_len KD KS (3 - e.2.1) [e]
  have h2 : 3 - e.2.1 = 0 ∨ 3 - e.2.1 = 1 ∨ 3 - e.2.1 = 2 := by omega
  unfold us_up
  rcases h2 with h2 | h2 | h2 <;> rw [h2] at h1 ⊢ <;> simp at h1 <;> omega
theorem us_lv_ok {KD KS : Nat → Int32} (hR : us_rok KD KS) : ∀ (n : Nat) (l : List us_Ev), (∀ e ∈ l, e.1 < 6 ∧ 1 ≤ e.2.1 ∧ e.2.1 + n = 3) → ∀ z ∈ us_lv KD KS n l, z.1 < 6 ∧ z.2.1 = 3
  | 0, l, h, z, hz => ⟨(h z hz).1, (h z hz).2.2⟩
  | n + 1, l, h, z, hz => by
    refine us_lv_ok hR n (l.flatMap (us_up1 KD KS)) (fun e he => ?_) z hz
    obtain ⟨x, hx, hex⟩ := List.mem_flatMap.mp he
    obtain ⟨h1, h2, h3⟩ := h x hx
    obtain ⟨g1, g2⟩ := us_up1_ok hR h1 h2 (by omega) e hex
    exact ⟨g1, by omega, by omega⟩
theorem us_up_ok {KD KS : Nat → Int32} (hR : us_rok KD KS) {e : us_Ev} (ht : e.1 < 6) (h1 : 1 ≤ e.2.1) (h3 : e.2.1 ≤ 3) : ∀ z ∈ us_up KD KS e, z.1 < 6 ∧ z.2.1 = 3 :=
  us_lv_ok hR (3 - e.2.1) [e] (fun z hz => by rw [List.mem_singleton] at hz; subst hz; exact ⟨ht, h1, by omega⟩)
theorem us_up1_form (KD KS : Nat → Int32) (e : us_Ev) : ∀ z ∈ us_up1 KD KS e, z.2.1 = e.2.1 + 1 := by
  intro z hz
  unfold us_up1 at hz
  repeat' split at hz
  all_goals first
    | (rw [List.mem_singleton] at hz; subst hz; rfl)
    | (simp only [List.mem_cons, List.not_mem_nil, or_false] at hz; rcases hz with rfl | rfl <;> rfl)
    | cases hz
theorem us_lv_flat (KD KS : Nat → Int32) (n : Nat) : ∀ l : List us_Ev, us_lv KD KS n l = l.flatMap (fun z => us_lv KD KS n [z])
  | [] => by rw [us_lv_nil]; rfl
  | x :: l => by
    rw [List.flatMap_cons, ← us_lv_flat KD KS n l, ← us_lv_app]
    rfl
theorem us_up_3 (KD KS : Nat → Int32) {e : us_Ev} (h : e.2.1 = 3) : us_up KD KS e = [e] := by unfold us_up; rw [h]; rfl
theorem us_up_step (KD KS : Nat → Int32) {e : us_Ev} (h : e.2.1 < 3) : us_up KD KS e = (us_up1 KD KS e).flatMap (us_up KD KS) := by
  obtain ⟨n, hn⟩ : ∃ n, 3 - e.2.1 = n + 1 := ⟨2 - e.2.1, by omega⟩
  unfold us_up
  rw [hn]
  show us_lv KD KS n ([e].flatMap (us_up1 KD KS)) = _
  rw [us_lv_flat]
  simp only [List.flatMap_cons, List.flatMap_nil, List.append_nil]
  have key : ∀ l : List us_Ev, (∀ z ∈ l, z.2.1 = e.2.1 + 1) → l.flatMap (fun z => us_lv KD KS n [z]) = l.flatMap (fun z => us_lv KD KS (3 - z.2.1) [z]) := by
    intro l
    induction l with
    | nil => intro _; rfl
    | cons z l ih =>
      intro hz
      rw [List.flatMap_cons, List.flatMap_cons, ih (fun y hy => hz y (by simp [hy])), show 3 - z.2.1 = n by rw [hz z (by simp)]; omega]
  exact key _ (us_up1_form KD KS e)
/-! numbers -/
theorem us_rule {t f : Nat} (ht : t < 6) (h1 : 1 ≤ f) (h3 : f ≤ 3) : nI t * 2 + nI f - 1 = nI (2 * t + f - 1) := by
  have key : ∀ t, t < 6 → ∀ f, f < 4 → 1 ≤ f → nI t * 2 + nI f - 1 = nI (2 * t + f - 1) := by decide
  exact key t ht f (by omega) h1
theorem us_rule2 {t f : Nat} (ht : t < 6) (h1 : 1 ≤ f) (h3 : f ≤ 3) : 2 * nI t + nI f - 1 = nI (2 * t + f - 1) := by
  have key : ∀ t, t < 6 → ∀ f, f < 4 → 1 ≤ f → 2 * nI t + nI f - 1 = nI (2 * t + f - 1) := by decide
  exact key t ht f (by omega) h1
