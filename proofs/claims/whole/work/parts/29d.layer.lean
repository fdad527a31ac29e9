/-! rows of an exception table -/
theorem us_rowy {e : Env} {s : State} {own X C : String} {d k : ClassId} {pc : Nat} {b : Bool} {y : ExceptionTableEntry} {args : Array Value} (hpl : e.platform.magicAccessors = ({} : Platform).magicAccessors) (hown : s.vm.findClass own = some d) (hl : (Cond.classLink own y.catchType C).before args s = true) (h0 : y.catchType ≠ 0) (hcov : covers y pc = true)
    (hk : s.vm.findClass X = some k) (hc : ∀ c, s.vm.findClass C = some c → s.vm.assignable k c = b) : us_row1 e.platform s d pc k b y := by
  obtain ⟨c, hfc, hcl⟩ := Cond.classLink_spec hown hl e.platform hpl
  exact ⟨hcov, h0, c, hcl, hc c hfc⟩
theorem us_cast {s : State} {X C : String} {args : Array Value} {k c : ClassId} (h : (Cond.castable X C).before args s = true) (hk : s.vm.findClass X = some k) (hc : s.vm.findClass C = some c) : s.vm.assignable k c = true := by
  obtain ⟨c0, t0, f1, f2, f3⟩ := Cond.castable_spec h
  cases f1.symm.trans hk
  cases f2.symm.trans hc
  exact f3
theorem us_ncast {s : State} {X C : String} {args : Array Value} {k c : ClassId} (h : (Cond.not (.castable X C)).before args s = true) (hk : s.vm.findClass X = some k) (hc : s.vm.findClass C = some c) : s.vm.assignable k c = false := by
  cases hq : s.vm.assignable k c with
  | false => rfl
  | true =>
    have h2 : (Cond.castable X C).before args s = true := by simp [Cond.before, Cond.holds, Cond.value, hk, hc, hq]
    simp only [Cond.before, Cond.holds, Cond.value] at h h2
    simp_all
theorem us_tab1 {l : List ExceptionTableEntry} {a b h t : Nat} (hm : l.map (fun h => (h.startPc, h.endPc, h.handlerPc, h.catchType)) = [(a, b, h, t)]) : ∃ y : ExceptionTableEntry, l = [] ++ y :: [] ∧ y.startPc = a ∧ y.endPc = b ∧ y.handlerPc = h ∧ y.catchType = t := by
  match l, hm with
  | [y], hm => simp at hm; exact ⟨y, rfl, hm.1, hm.2.1, hm.2.2.1, hm.2.2.2⟩
