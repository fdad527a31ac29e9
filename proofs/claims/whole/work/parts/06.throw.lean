/-! Methods that throw: what they leave; their contract; a call of one, caught by a row of the caller's own table. -/
def us_TE (cls : String) (st : State) (x : Nat) (t : State) : Prop := st.WarmedH t.vm ∧ st.sameButNew ({ t with vm := st.vm } : State) [] 1 6 ∧ ∃ ce : Cell, t.heap[x]? = some ce ∧ ce.vm.isStatics = false ∧ st.vm.findClass cls = some ce.cls
def us_TQ (below : List Frame) (cls : String) (s : State) : State → Prop := fun t => ∃ x : Nat, t.status = .running ∧ Ended t below (.threw x) ∧ us_TE cls s x t
def us_TMet (l : Launch) (y : MethodName) (ws : List Cond) (rm : Room) (D : va_G) (cl : List vw_C) (tys : List (ClassId × FieldType)) (E : State → Prop) (av : List Value) (w0 : va_W) (cls : String) : Prop :=
  MetFree l y (headSpec ws rm) (va_Pc av (fun U => va_P D cl w0 U.heap ∧ va_K D cl tys U ∧ E U)) (fun _ _ _ _ _ => True) (fun _ st o t => ∃ x : Nat, o = .threw x ∧ us_TE cls st x t)
theorem us_ofT {l : Launch} {y : MethodName} {ws ws' : List Cond} {rm : Room} {D : va_G} {cl : List vw_C} {tys : List (ClassId × FieldType)} {E : State → Prop} {av : List Value} {w0 : va_W} {cls : String} {cc : ByteArray} {maxL : Nat} {ret : Option FieldType}
    (hy : plainName y.cls = true) (hw : ws = Cond.code y cc maxL ret :: ws') (hL : (lg_sl av).length ≤ maxL)
    (body : ∀ (p : Program) (e : Env) (s : State) (m : MethodId) (args : Array Value) (below : List Frame) (meth : Method) (c : Code) (A : Nat → Prop) (ls : Array Slot), l.admits e → p.tables.exec = Jvm.exec → c.code = cc → c.maxLocals = maxL → c.exceptionTable.isEmpty = true → (∀ w ∈ ws, w.before args s = true) →
      s.vm.findClass y.cls = some m.cls → meth.locks = false → lv_has ls maxL (lv_args 0 av) → va_K D cl tys s → E s → va_P D cl w0 s.heap → va_D A [] → va_S A s.heap s.heap [] → (∀ q : Nat, s.heap.size ≤ q → A q) → (∀ q : Nat, A q → s.heap.size ≤ q) →
      W p l e rm s m args below meth c s.heap [] 0 0 (us_TQ below cls s) (F0 m 0 ls [])) : us_TMet l y ws rm D cl tys E av w0 cls := by
  refine MetFree.of_bodyS (code := cc) (maxLocals := maxL) (ret := ret) hy ?_ ?_
  · intro args s m h hn
    obtain ⟨meth, c, h1, h2, h3, h4, h5, h6, -, -⟩ := Cond.code_spec hn (atoms_spec (ws := ws) h _ (by rw [hw]; exact List.mem_cons_self))
    exact ⟨meth, c, h1, h2, h3, h4, h5, h6⟩
  · intro p e s m args below meth c s₁ B hml hP _
    obtain ⟨rfl, hP, hK, hE⟩ := hP
    have hts := atoms_spec (ws := ws) B.pre
    have hh0 : s₁.heap = s.heap := by rw [B.state]; rfl
    have hl := lv_entry av (n := maxL) hL
    rw [lg_entry_eq]
    obtain ⟨t, a1, x, b1, b2, b3⟩ := body p e s m av.toArray below meth c (fun q => s.heap.size ≤ q) _ B.admits B.exec B.bytes hml (B.noHandlers (hts _ (by rw [hw]; exact List.mem_cons_self))) hts (findClass_of_methodNamed B.named) B.notSynchronized hl hK hE hP
      ⟨fun i j p q h => by simp at h, fun k q h => by simp at h⟩ va_S.rf (fun _ h => h) (fun _ h => h) s₁ hh0 (Stand.of_body B)
    exact ⟨t, .threw x, a1, b1, b2, x, rfl, b3⟩
section UST
variable {p : Program} {l : Launch} {e : Env} {R : Room} {s : State} {m : MethodId} {args : Array Value} {below : List Frame} {meth : Method} {c : Code} {H : Heap} {locs : List Loc} {cells slots : Nat} {Q : State → Prop}
variable {cc : ByteArray} {pc : Nat} {ls : Array Slot}
/-- new X; dup; X.<init>(); athrow -/
theorem us_throw {own cls : String} {names : List String} {ix ic : Nat} {A : Nat → Prop} {rest : List Value} (htr : e.platform.stackTraces = false) (hx : p.tables.exec = Jvm.exec) (hb : c.code = cc) (hlk : meth.locks = false) (hown : s.vm.findClass own = some m.cls) (hsize : ls.size = c.maxLocals) (hno : c.exceptionTable.isEmpty = true)
    (hS : va_S A s.heap H locs) (hA2 : ∀ q : Nat, A q → s.heap.size ≤ q) (hat : ∀ a ∈ Bundle.ownAtoms0 own ic cls names, a.before args s = true) (hfit : Bundle.fit cls = true) (hnames : ∀ n ∈ names, Bundle.fit n = true)
    (hcl : (Cond.classLink own ix cls).before args s = true) (hini : (Cond.initialized cls).before args s = true) (hRf : names.length + 3 < R.frames) (hRl : (rest.map fun v => v.category).sum + (13 * (names.length + 1) + 42) ≤ R.locals) (hRc : 1 ≤ R.cells) (hRs : 6 ≤ R.slots)
    (hd0 : decode cc pc = .ok (.new ix, 3)) (hd3 : decode cc (pc + 3) = .ok (.dup, 1)) (hd4 : decode cc (pc + 3 + 1) = .ok (.invokespecial ic, 3)) (hd7 : decode cc (pc + 3 + 1 + 3) = .ok (.athrow, 1)) :
    W p l e R s m args below meth c H locs 0 0 (us_TQ below cls s) (F0 m pc ls rest) := by
  refine va_forget (fun q hq => hA2 _ (hS.2.2 q hq)) ?_
  refine W.newc hx hb hown hcl (hat (.instantiable cls 6) (by simp [Bundle.ownAtoms0])) hini rfl hd0 (by omega) (by omega) (fun cC kC h1 h2 h3 h4 => ?_)
  refine W.eq (g2 := F0 m (pc + 3) ls (.ref H.size :: rest)) rfl ?_
  refine lv_dup hx hb hd3 rfl ?_
  intro T hT X
  have hcell : T.heap[H.size]? = some (freshCell cC kC) := by rw [hT]; simp [freshCell]
  have hout : ∀ y ∈ c.exceptionTable.toList, covers y (pc + 3 + 1 + 3) = false := by
    have h0 : c.exceptionTable.toList = [] := by simpa [Array.isEmpty] using hno
    rw [h0]; intro y hy; cases hy
  obtain ⟨U, hst, hrun, hend, hW, hsame, ce, hce, hO⟩ := X.ctorThrow0 hx htr hown hfit hnames hat (fun x hx => by cases hx) h1 h2 hcell hS.1 (g := F0 m (pc + 3 + 1) ls (.ref H.size :: .ref H.size :: rest)) rfl hsize rfl rfl rfl (by rw [hb]; exact hd4) (by rw [hb]; exact hd7) hout hRf
    (by
      have e1 : ((Value.ref H.size :: rest).map fun v => v.category).sum = 1 + (rest.map fun v => v.category).sum := by rw [List.map_cons, List.sum_cons]; rfl
      show 2 * 0 + ((Value.ref H.size :: rest).map fun v => v.category).sum + _ ≤ _
      rw [e1]; omega) hlk
  exact ⟨U, hst, H.size, hrun, hend, hW, hsame.mono (by omega) (by omega), ce, hce, by rw [hO.vm]; rfl, hO.cls⟩
end UST
/-! the search for a handler, the catch types linked or not yet -/
theorem us_go1 {e : Env} {S : State} {f : JFrame} {a : Addr} {d : Bool} {acts : List Action} {Q : Handler → Pre} {E : CtlPost} {y : ExceptionTableEntry} {t : List ExceptionTableEntry} {c : ClassId} {ce : Cell} (hcov : covers y f.pc = true) (h0 : y.catchType ≠ 0)
    (hl : S.vm.ClassLinks e.platform f.method.cls y.catchType c) (hce : S.heap[a]? = some ce) (hob : ∀ k, ce.vm ≠ .statics k) (hk : ∃ k, S.vm.classes[ce.cls]? = some k) (hc : ∃ k, S.vm.classes[c]? = some k) :
    wp (findHandler.go f a (y :: t)) Q E e d acts S ↔ if S.vm.assignable ce.cls c = true then Q (.found y.handlerPc) d acts (S.setVm (S.vm.noted f.method.cls y.catchType (.cls c))) else wp (findHandler.go f a t) Q E e d acts (S.setVm (S.vm.noted f.method.cls y.catchType (.cls c))) := by
  obtain ⟨q1, q2⟩ := (resolveClass_links e.toSetting hl).op (op := VmOp.resolveClass f.method.cls y.catchType) rfl
  have hal : S.vm.Alike (S.vm.noted f.method.cls y.catchType (.cls c)) := (Vm.Alike.refl S.vm).noted _ _ _
  obtain ⟨k1, hk1⟩ := hk
  obtain ⟨k2, hk2⟩ := hc
  obtain ⟨k3, hk3, -⟩ := hal.2.2 _ _ hk1
  obtain ⟨k4, hk4, -⟩ := hal.2.2 _ _ hk2
  have hcov' := hcov
  simp only [covers] at hcov'
  cases hft : S.vm.assignable ce.cls c with
  | true =>
    have hft' : (S.vm.noted f.method.cls y.catchType (.cls c)).assignable ce.cls c = true := by rw [hal.assignable]; exact hft
    simp [findHandler.go, hcov', h0, q1, q2, hce, hob, hk3, hk4, hft', VmOp.dirties, VmOp.acts]
  | false =>
    have hft' : (S.vm.noted f.method.cls y.catchType (.cls c)).assignable ce.cls c = false := by rw [hal.assignable]; exact hft
    simp [findHandler.go, hcov', h0, q1, q2, hce, hob, hk3, hk4, hft', VmOp.dirties, VmOp.acts]
/-- a row of the table: it covers pc, and its class takes an object of class k or doesn't -/
def us_row1 (pl : Platform) (s : State) (d : ClassId) (pc : Nat) (k : ClassId) (b : Bool) (y : ExceptionTableEntry) : Prop := covers y pc = true ∧ y.catchType ≠ 0 ∧ ∃ c, s.vm.ClassLinks pl d y.catchType c ∧ s.vm.assignable k c = b
theorem us_seek {e : Env} {s : State} {f : JFrame} {a : Addr} {ce : Cell} (hob : ce.vm.isStatics = false) (hk : ∃ k, s.vm.classes[ce.cls]? = some k) {y : ExceptionTableEntry} {rest : List ExceptionTableEntry} (hy : us_row1 e.platform s f.method.cls f.pc ce.cls true y) :
    ∀ (ms : List ExceptionTableEntry) (S : State), s.WarmedH S.vm → S.heap[a]? = some ce → (∀ z ∈ ms, us_row1 e.platform s f.method.cls f.pc ce.cls false z) →
      ∃ vm', s.WarmedH vm' ∧ ∀ (Q : Handler → Pre) (E : CtlPost) (d : Bool) (acts : List Action), wp (findHandler.go f a (ms ++ y :: rest)) Q E e d acts S ↔ Q (.found y.handlerPc) d acts (S.setVm vm') := by
  have one : ∀ (b : Bool) (z : ExceptionTableEntry) (t : List ExceptionTableEntry) (S : State), us_row1 e.platform s f.method.cls f.pc ce.cls b z → s.WarmedH S.vm → S.heap[a]? = some ce →
      ∃ vm', s.WarmedH vm' ∧ ∀ (Q : Handler → Pre) (E : CtlPost) (d : Bool) (acts : List Action), wp (findHandler.go f a (z :: t)) Q E e d acts S ↔ if b = true then Q (.found z.handlerPc) d acts (S.setVm vm') else wp (findHandler.go f a t) Q E e d acts (S.setVm vm') := by
    intro b z t S ⟨h1, h2, c, h3, h4⟩ hW hce
    obtain ⟨k0, hk0⟩ := hk
    obtain ⟨k1, hk1, -⟩ := hW.alike.2.2 _ _ hk0
    obtain ⟨dk, _, _, kt, hd, _, _, _, _, hkt, _, hopen⟩ := h3.here
    obtain ⟨k2, hk2, -⟩ := hW.alike.2.2 _ _ hkt
    refine ⟨_, hW.noted hd hopen (State.rightAt_cls h3), fun Q E d acts => ?_⟩
    rw [us_go1 h1 h2 (hW.classLinks h3) hce (VmData.ne_statics_of hob) ⟨k1, hk1⟩ ⟨k2, hk2⟩, hW.alike.assignable, h4]
  intro ms
  induction ms with
  | nil =>
    intro S hW hce _
    obtain ⟨vm', g1, g2⟩ := one true y rest S hy hW hce
    exact ⟨vm', g1, fun Q E d acts => by rw [List.nil_append, g2, if_pos rfl]⟩
  | cons z ms ih =>
    intro S hW hce hms
    obtain ⟨vm1, g1, g2⟩ := one false z (ms ++ y :: rest) S (hms z (by simp)) hW hce
    obtain ⟨vm2, g3, g4⟩ := ih (S.setVm vm1) g1 hce (fun w hw => hms w (by simp [hw]))
    exact ⟨vm2, g3, fun Q E d acts => by rw [List.cons_append, g2, if_neg (by decide), g4, State.setVm_twice]⟩
theorem us_catch1 {e : Env} {S : State} {a : Addr} {f : JFrame} {r : List Frame} {pc : Nat} {vm' : Vm} (h : ∀ (Q : Handler → Pre) (E : CtlPost) (d : Bool) (acts : List Action), wp (findHandler f a) Q E e d acts S ↔ Q (.found pc) d acts (S.setVm vm')) :
    (stepThrowing e S a (.java f :: r)).1 = (S.setVm vm').setFrames (.java { f with pc := pc, stack := [.ref a] } :: r) := by
  simp only [stepThrowing, searchFrame, vmDo]
  generalize hr : Sem.go _ e false [] S = res
  obtain ⟨as, rfl, ha⟩ := Sem.eq_ok_of hr (a := Handler.found pc) (s' := S.setVm vm') (acts' := []) (by simp [h _ _ _ _])
  rfl
theorem us_caught {tb : Tables} {e : Env} {T target : State} {g : JFrame} {c : Code} {below : List Frame} {a : Addr} (h : At T g.method c below) {pc : Nat} {vm' : Vm}
    (hf : ∀ (Q : Handler → Pre) (E : CtlPost) (d : Bool) (acts : List Action), wp (findHandler g a) Q E e d acts ((T.setTop g).pushFrame (.throwing a)) ↔ Q (.found pc) d acts (((T.setTop g).pushFrame (.throwing a)).setVm vm'))
    (hrest : Steps tb e below ((T.setVm vm').setTop { g with pc := pc, stack := [.ref a] }) target) : Steps tb e below ((T.setTop g).pushFrame (.throwing a)) target := by
  obtain ⟨hgo, hw⟩ := h.throwing a
  refine Steps.head hgo hw ?_
  rw [stepThread_throwing (frames_entered h.top _), us_catch1 (S := (T.setTop g).pushFrame (.throwing a)) hf]
  obtain ⟨g₀, hg⟩ := Option.isSome_iff_exists.mp h.top
  obtain ⟨r, hr⟩ := State.topJava?_eq_some.mp hg
  have hr' : (T.setVm vm').frames = .java g₀ :: r := hr
  rw [State.setTop_of_frames _ hr'] at hrest
  have e1 : ∀ F G : List Frame, ((T.setFrames F).setVm vm').setFrames G = (T.setVm vm').setFrames G := fun F G => by
    rw [show (T.setFrames F).setVm vm' = (T.setVm vm').setFrames F from rfl, State.setFrames_setFrames]
  rw [State.pushFrame, State.setTop_of_frames _ hr, State.setFrames_setFrames, e1, hr, List.tail_cons]
  exact hrest
section USTC
variable {p : Program} {l : Launch} {e : Env} {R : Room} {s : State} {m : MethodId} {args : Array Value} {below : List Frame} {meth : Method} {c : Code} {H : Heap} {locs : List Loc} {cells slots : Nat} {Q : State → Prop}
variable {D : va_G} {cl : List vw_C} {tys : List (ClassId × FieldType)} {A : Nat → Prop} {cc : ByteArray} {pc : Nat} {ls : Array Slot}
/-- a call of a method that throws cls, by invokevirtual; the caller's table has rows ms that don't take it, then y that does -/
theorem us_callT {Ts ws : List Cond} {bytes : ByteArray} {nL maxL index n ci N q0 : Nat} {own C cls : String} {y : MethodName} {ret : Option FieldType} {rm : Room} {b : Nat} {As rest st0 fs : List Value} {T0 : u_T} {wsC wc : va_W} {E : State → Prop} {ms mr : List ExceptionTableEntry} {yr : ExceptionTableEntry}
    (S0 : CallFix p m c cc nL s args Ts own) (hM : us_TMet l y ws rm D cl tys E (.ref b :: As) wc cls) (cw : CallW R s args own C index y bytes maxL ret ws rm rm.cells rm.slots n) (hrm : rm.cells = 1 ∧ rm.slots = 6)
    (hK : va_K D cl tys s) (hP : va_P D cl wsC H) (hS : va_S A s.heap H locs) (hE : ∀ (U : State) (g : JFrame) (mk : MethodId) (a : Array Value), U.heap = H → s.WarmedH U.vm → E (U.calling g mk a)) (is : List Nat) (hC : is.map (fun i => wsC[i]?) = wc.map some)
    (he : wsC[q0]? = some (b, .inr (ci, fs))) (hc : cl[ci]? = some (C, T0, N)) (hlen : As.length = n) (hsize : ls.size = nL) (hst : st0 = As.reverse ++ .ref b :: rest) (hW : (rest.map fun v => v.category).sum ≤ 8)
    (hd : decode cc pc = .ok (.invokevirtual index, 3)) (hf : cells + 1 ≤ R.cells ∧ slots + 6 ≤ R.slots)
    (htab : c.exceptionTable.toList = ms ++ yr :: mr) (hms : ∀ k, s.vm.findClass cls = some k → ∀ z ∈ ms, us_row1 e.platform s m.cls pc k false z) (hyr : ∀ k, s.vm.findClass cls = some k → us_row1 e.platform s m.cls pc k true yr)
    (kk : ∀ (x : Nat) (H1 : Heap), va_P D cl wsC H1 → va_S A s.heap H1 locs → (∀ q : Nat, q < H.size → H1[q]? = H[q]?) → W p l e R s m args below meth c H1 locs (cells + 1) (slots + 6) Q (F0 m yr.handlerPc ls [.ref x])) :
    W p l e R s m args below meth c H locs cells slots Q (F0 m pc ls st0) := by
  obtain ⟨⟨-, -, hfr, hlo, hws, hcw, hcode, hini, hy, hlenY, hl⟩, hinst, hsel⟩ := cw
  obtain ⟨hx, hb, hml, hown, -⟩ := S0
  obtain ⟨cellB, hcB, hobj, hcls⟩ := va_recv hK hP hc he
  subst hst
  intro T hT X
  obtain ⟨mk, methM, hnamed, hmethM, hstM, habM⟩ := Cond.instanceMethod_spec hinst
  obtain ⟨methM', cM, hmethM', hcM, -, hlM, -, -, -, hsigM⟩ := Cond.code_spec hnamed hcode
  cases hmethM.symm.trans hmethM'
  obtain ⟨c2, r2, m2, q1, q2, q3, q4, kP, hkP, hkPi⟩ := Cond.selects_spec hsel
  cases hcls.symm.trans q1
  cases (State.methodFound?_of_named hnamed hy).symm.trans q2
  cases hnamed.symm.trans q3
  have hselP : selectMethod e.platform s.vm cellB.cls mk = .method mk := by rw [Launch.admits_selectMethod X.admits]; exact q4
  obtain ⟨vm₁, X₁, hstep₁⟩ := X.invokevirtual hx hown hl hnamed hmethM hstM hkP hkPi hy (a := b) (cell := cellB) (by rw [hT]; exact hcB)
    (fun z h => by rw [h] at hobj; cases hobj) hselP hmethM habM hkP hkPi (g := F0 m pc ls (As.reverse ++ .ref b :: rest)) rfl (argsL := As) (rest := rest) (hlen.trans (hlenY _ hsigM)) rfl (by rw [hb]; exact hd)
  have hinitP : kP.init = .initialized := Cond.initialized_spec (findClass_of_methodNamed hnamed) hkP hini
  have hmT : (T.setVm vm₁).vm.method? mk = some methM := by
    have := X₁.warmed.alike.method? (m := mk)
    rw [this]; exact hmethM
  obtain ⟨kP1, hkP1, he1⟩ := X₁.warmed.alike.2.2 _ _ hkP
  have hg : (F0 m pc ls rest).locals.size = c.maxLocals := hsize.trans hml.symm
  have happ : (headSpec ws rm).appliesLoose y e.platform ((T.setVm vm₁).calling (F0 m pc ls rest) mk (Value.ref b :: As).toArray) = true :=
    Spec.appliesLoose_calling (g := F0 m pc ls rest) (c := c) X₁.here (by rw [hb]; exact hd) (X₁.named hnamed) hkP1 (by rw [he1]; exact hinitP)
      (X₁.room_calling (g := F0 m pc ls rest) (R' := rm) hg hmT hcM hfr (by rw [hlM]; show 2 * 0 + (rest.map fun v => v.category).sum + _ + _ ≤ _; omega) (by rw [hrm.1]; exact hf.1) (by rw [hrm.2]; exact hf.2)) (atoms_intro fun w hw => hws w hw _ _ X₁.warmed)
  obtain ⟨g₀, hfe⟩ := X₁.frames_eq
  have hfr2 : ((T.setVm vm₁).setTop (F0 m pc ls rest)).frames = [.java (F0 m pc ls rest)] ++ below := by rw [State.frames_setTop _ hfe]; rfl
  have hPc : va_Pc (Value.ref b :: As) (fun U => va_P D cl wc U.heap ∧ va_K D cl tys U ∧ E U) (Value.ref b :: As).toArray ((T.setVm vm₁).calling (F0 m pc ls rest) mk (Value.ref b :: As).toArray) :=
    ⟨rfl, by show va_P D cl wc T.heap; rw [hT]; exact us_part hP is hC, va_K.moved (u := s) X₁.warmed.alike hK, hE (T.setVm vm₁) _ _ _ hT X₁.warmed⟩
  obtain ⟨o, s₂, hsteps, -, hend, x, rfl, hTE⟩ := Steps.callFree hM p X.admits X.cas X.clock (acts := []) hfr2 happ hPc trivial
  have hend' : Ended s₂ (.java (F0 m pc ls rest) :: below) (.threw x) := by rw [hfr2] at hend; exact hend
  obtain ⟨w1, w2, ce, w3, w4, w5⟩ := hTE
  obtain ⟨T', X', hW', hsame', rfl⟩ := X₁.outOfThrown (g := F0 m pc ls rest) rfl hend' w1 w2
  have hheap : ∀ q : Nat, q < H.size → T'.heap[q]? = H[q]? := fun q hq => by
    have hqT : q < T.heap.size := by rw [hT]; exact hq
    have h1 : (T.setVm vm₁).heap[q]? = some (T.heap[q]'hqT) := by show T.heap[q]? = _; exact Array.getElem?_eq_getElem hqT
    have h2 := hsame'.old_cell h1
    have h3 : T'.heap[q]? = some (T.heap[q]'hqT) := h2
    rw [h3, ← hT]; exact h1.symm
  have hsz : H.size ≤ T'.heap.size := by rw [← hT]; exact hsame'.2.1
  have hx3 : T'.heap[x]? = some ce := w3
  have hcc : s.vm.findClass cls = some ce.cls := by
    have h1 : (T.setVm vm₁).vm.findClass cls = some ce.cls := w5
    rw [← X₁.warmed.alike.findClass]; exact h1
  obtain ⟨k0, hk0⟩ := Vm.classAt_of_findClass hcc
  obtain ⟨vm', g1, g2⟩ := us_seek (e := e) (s := s) (f := F0 m pc ls rest) (a := x) w4 ⟨k0, hk0⟩ (hyr _ hcc) ms ((T'.setTop (F0 m pc ls rest)).pushFrame (.throwing x)) X'.warmed hx3 (hms _ hcc) (rest := mr)
  have hf2 : ∀ (Q : Handler → Pre) (E : CtlPost) (d : Bool) (acts : List Action), wp (findHandler (F0 m pc ls rest) x) Q E e d acts ((T'.setTop (F0 m pc ls rest)).pushFrame (.throwing x)) ↔ Q (.found yr.handlerPc) d acts (((T'.setTop (F0 m pc ls rest)).pushFrame (.throwing x)).setVm vm') := fun Q E d acts => by
    rw [W.findHandler_eq (meth := meth) (code := c) X'.method' X'.code, htab]
    exact g2 Q E d acts
  obtain ⟨t2, a1, b1⟩ := kk x T'.heap (hP.kept (fun k q hk => hheap q.1 (hP k q hk).lt)) ⟨Nat.le_trans hS.1 hsz, fun q h1 h2 => by rw [hheap q (Nat.lt_of_lt_of_le h1 hS.1)]; exact hS.2.1 q h1 h2, hS.2.2⟩ hheap (T'.setVm vm') rfl
    (by have X2 := X'.noted g1; rw [List.append_nil] at X2; exact X2)
  refine ⟨t2, hstep₁ _ fun acts => ?_, b1⟩
  rw [doInvoke_state]
  exact hsteps.trans (us_caught (g := F0 m pc ls rest) X'.here hf2 a1)
end USTC
