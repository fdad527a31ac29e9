/-! the words of exceptions move to a later state: tables alike, the statics' cells as they were -/
theorem us_stat {s U : State} (hW : s.WarmedH U.vm) (hcell : ∀ (a : Nat) (cell : Cell), s.heap[a]? = some cell → cell.vm.isStatics = true → U.heap[a]? = some cell) {O f d : String} {args args' : Array Value} (h1 : (Cond.laysStatic O f d).before args s = true) :
    (Cond.laysStatic O f d).before args' U = true ∧ ((Cond.isRef (.static O f d)).before args s = true → (Cond.isRef (.static O f d)).before args' U = true) := by
  obtain ⟨c, k, i, fd, a, cell, hc, hi, hst, ha, hce, hs, hcls, hlt, hty⟩ := Cond.laysStatic_spec h1
  obtain ⟨k', hi', hek⟩ := State.fieldFound?_setVm hW.alike hi
  have hi2 : U.fieldFound? O f d = some (c, k', i, fd) := hi'
  have ha2 : k'.statics = some a := by rw [hek]; exact ha
  have hce2 := hcell a cell hce hs
  refine ⟨Cond.laysStatic_of (s := U) (by rw [hW.alike.findClass]; exact hc) hi2 hst ha2 hce2 hs hcls hlt (by rw [hek]; exact hty), fun h2 => ?_⟩
  obtain ⟨v, hv, hr⟩ := Cond.isRef_spec h2
  have hsl : cell.slots[fd.slot]? = some cell.slots[fd.slot] := Array.getElem?_eq_getElem hlt
  have e1 : (Term.static O f d).eval args s none [] s = some cell.slots[fd.slot] := by
    simp [Term.eval, State.fieldNamed?, hi, hst, ha, hce, hs, hsl]
  have e2 : (Term.static O f d).eval args' U none [] U = some cell.slots[fd.slot] := by
    simp [Term.eval, State.fieldNamed?, hi2, hst, ha2, hce2, hs, hsl]
  have e3 : v = cell.slots[fd.slot] := Option.some.inj (hv.symm.trans e1)
  simp only [Cond.before, Cond.holds, Cond.value, e2]
  rw [← e3]
  clear hv e1 e2 e3 h2 h1
  revert hr
  cases v <;> intro hr <;> first | rfl | (exact absurd hr (by simp [Value.isRef]))
theorem us_E.moved {s U : State} (hW : s.WarmedH U.vm) (hcell : ∀ (a : Nat) (cell : Cell), s.heap[a]? = some cell → cell.vm.isStatics = true → U.heap[a]? = some cell) (h : us_E s) : us_E U := by
  have s1 : ∀ args : Array Value, (Cond.laysStatic "java/lang/Throwable" "UNASSIGNED_STACK" "[Ljava/lang/StackTraceElement;").before args s = true := fun args => h.1 args _ (List.mem_of_getElem? (i := 7) rfl)
  have s2 : ∀ args : Array Value, (Cond.laysStatic "java/lang/Throwable" "SUPPRESSED_SENTINEL" "Ljava/util/List;").before args s = true := fun args => h.1 args _ (List.mem_of_getElem? (i := 8) rfl)
  have dW : ∀ (x : MethodName) (args : Array Value), (Cond.declares x).before args s = true → (Cond.declares x).before args U = true := fun x args q => va_Nw.use rfl (va_Nw.warmD hW (va_Nw.of rfl q))
  have cW : ∀ (x y : String) (args : Array Value), (Cond.castable x y).before args s = true → (Cond.castable x y).before args U = true := fun x y args q => va_Nw.use rfl (va_Nw.warmC hW (va_Nw.of rfl q))
  refine ⟨fun args w hw => ?_, fun args w hw => ?_⟩
  · have hws := h.1 args w hw
    simp only [us_X1, List.mem_cons, List.not_mem_nil, or_false] at hw
    rcases hw with rfl | rfl | rfl | rfl | rfl | rfl | rfl | rfl | rfl
    · exact dW _ _ hws
    · exact dW _ _ hws
    · exact dW _ _ hws
    · exact cW _ _ _ hws
    · exact cW _ _ _ hws
    · exact cW _ _ _ hws
    · exact cW _ _ _ hws
    · exact (us_stat hW hcell hws).1
    · exact (us_stat hW hcell hws).1
  · have hws := h.2 args w hw
    simp only [us_X2, List.mem_cons, List.not_mem_nil, or_false] at hw
    rcases hw with rfl | rfl
    · exact (us_stat hW hcell (s1 args)).2 hws
    · exact (us_stat hW hcell (s2 args)).2 hws
/-- a statics' cell is no cell of the world, and stays -/
theorem us_keepS {D : va_G} {cl : List vw_C} {w0 : va_W} {s : State} {H : Heap} {locs : List Loc} {A : Nat → Prop} (hAe : A = va_A w0 s.heap.size) (hP : va_P D cl w0 s.heap) (hS : va_S A s.heap H locs) (a : Nat) (cell : Cell) (h : s.heap[a]? = some cell) (hs : cell.vm.isStatics = true) : H[a]? = some cell := by
  have hlt : a < s.heap.size := (Array.getElem?_eq_some_iff.mp h).1
  rw [hS.2.1 a hlt ?_, h]
  rw [hAe]
  rintro (⟨k, e, hk⟩ | hk)
  · have h1 := hP k _ hk
    cases e with
    | inl x =>
      have h2 : s.heap[a]? = some (vp_cell x.1 x.2) := h1
      rw [h] at h2
      have h3 : cell = vp_cell x.1 x.2 := Option.some.inj h2
      rw [h3] at hs
      obtain ⟨x1, x2, x3⟩ := x
      rcases x3 with f | f | f | f | f <;> cases hs
    | inr x =>
      obtain ⟨r', hr', cellV, g1, g2, g3, -⟩ := h1
      have h2 : cell = cellV := Option.some.inj (h.symm.trans g1)
      rw [h2, g3] at hs
      cases hs
  · omega
