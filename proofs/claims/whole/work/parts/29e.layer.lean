theorem us_hE {D : va_G} {cl : List vw_C} {w0 : va_W} {s : State} {H : Heap} {locs : List Loc} {A : Nat → Prop} (hAe : A = va_A w0 s.heap.size) (hP : va_P D cl w0 s.heap) (hS : va_S A s.heap H locs) (hEL : us_EL s) :
    ∀ (U : State) (g : JFrame) (mk : MethodId) (a : Array Value), U.heap = H → s.WarmedH U.vm → us_E (U.calling g mk a) := fun U g mk a hU hW =>
  us_E.moved (U := U.calling g mk a) hW (fun q cell h1 h2 => by show U.heap[q]? = _; rw [hU]; exact us_keepS hAe hP hS q cell h1 h2) hEL.1
theorem us_tab3 {l : List ExceptionTableEntry} {a b h t a2 b2 h2 t2 a3 b3 h3 t3 : Nat} (hm : l.map (fun h => (h.startPc, h.endPc, h.handlerPc, h.catchType)) = [(a, b, h, t), (a2, b2, h2, t2), (a3, b3, h3, t3)]) : ∃ y z w : ExceptionTableEntry, l = [y, z, w] ∧ (y.startPc = a ∧ y.endPc = b ∧ y.handlerPc = h ∧ y.catchType = t) ∧ (z.startPc = a2 ∧ z.endPc = b2 ∧ z.handlerPc = h2 ∧ z.catchType = t2) ∧ (w.startPc = a3 ∧ w.endPc = b3 ∧ w.handlerPc = h3 ∧ w.catchType = t3) := by
  match l, hm with
  | [y, z, w], hm =>
    simp at hm
    exact ⟨y, z, w, rfl, ⟨hm.1.1, hm.1.2.1, hm.1.2.2.1, hm.1.2.2.2⟩, ⟨hm.2.1.1, hm.2.1.2.1, hm.2.1.2.2.1, hm.2.1.2.2.2⟩, ⟨hm.2.2.1, hm.2.2.2.1, hm.2.2.2.2.1, hm.2.2.2.2.2⟩⟩
theorem us_cov {y : ExceptionTableEntry} {a b pc : Nat} (h1 : y.startPc = a) (h2 : y.endPc = b) (h3 : a ≤ pc) (h4 : pc < b) : covers y pc = true := by
  simp [covers, h1, h2, h3, h4]
