theorem us_ms_1 {e : us_Ev} (h1 : 1 ≤ e.2.1) (h3 : e.2.1 ≤ 3) : 1 ≤ us_ms [e] ∧ us_ms [e] ≤ 7 := by
  have h0 : us_ms [e] = 2 ^ (4 - e.2.1) - 1 := by simp [us_ms]
  rw [h0]
  rcases (show e.2.1 = 1 ∨ e.2.1 = 2 ∨ e.2.1 = 3 by omega) with h | h | h <;> rw [h] <;> decide
theorem us_lastx {l : List us_Ev} (h : 0 < l.length) : ∃ l1 e2, l = l1 ++ [e2] :=
  ⟨l.dropLast, l.getLast (by intro q; rw [q] at h; cases h), (List.dropLast_concat_getLast _).symm⟩
theorem us_lastg {l l1 : List us_Ev} {e2 : us_Ev} {o : Nat} (h : l = l1 ++ [e2]) (ho : o = l.length) : l[o - 1]? = some e2 := by
  subst h; subst ho; simp
theorem us_row_pre {T F A B : Nat → Int32} {l l1 : List us_Ev} {e2 : us_Ev} (h : l = l1 ++ [e2]) (hr : us_row T F A B l) : us_row T F A B l1 := fun i e he => hr i e (by
  subst h
  rw [List.getElem?_append_left (List.getElem?_eq_some_iff.mp he).1]; exact he)
theorem us_dec1 {o : Nat} (h : 0 < o) : nI o - 1 = nI (o - 1) := by
  obtain ⟨k, rfl⟩ : ∃ k, o = k + 1 := ⟨o - 1, by omega⟩
  exact nI_pred k
theorem us_sx_odd {S : Nat → Int64} {x : us_St} (h : us_sx S x) : us_sx (vp_updL S 6 (S 6 + 1)) (us_odd x) := by
  obtain ⟨h0, h1, h2, h3, h4, h5, h6, h7⟩ := h
  refine ⟨?_, ?_, ?_, ?_, ?_, ?_, ?_, ?_⟩ <;> simp [vp_updL, us_odd, h0, h1, h2, h3, h4, h5, h6, h7]
theorem us_up_eta (KD KS : Nat → Int32) {e : us_Ev} (h : e.2.1 < 3) (c l : List us_Ev) : c ++ (l ++ (us_up1 KD KS e).reverse).reverse.flatMap (us_up KD KS) = c ++ (l ++ [e]).reverse.flatMap (us_up KD KS) := by
  simp only [List.reverse_append, List.reverse_reverse, List.flatMap_append, List.reverse_singleton, List.flatMap_cons, List.flatMap_nil, List.append_nil]
  rw [us_up_step KD KS h]
