/-! methods that catch: their contract -/
def us_X3 : List (String × String) := [("java/lang/IllegalStateException", "java/lang/IllegalArgumentException"), ("java/lang/UnsupportedOperationException", "java/lang/IllegalArgumentException"), ("java/lang/UnsupportedOperationException", "java/lang/IllegalStateException")]
def us_EL (s : State) : Prop := us_E s ∧ ∀ q ∈ us_X3, ∀ k c : ClassId, s.vm.findClass q.1 = some k → s.vm.findClass q.2 = some c → s.vm.assignable k c = false
def us_MetH {S : Type} (l : Launch) (y : MethodName) (ws : List Cond) (rm : Room) (D : va_G) (cl : List vw_C) (tys : List (ClassId × FieldType)) (av : List Value) (w0 : va_W) (rv : S → Option Value) (post : S → Prop) (w1 : S → va_W) : Prop :=
  ∀ sz : Nat, Met l y ws rm (va_Pc av (fun U => us_Pre D cl tys w0 sz U ∧ us_EL U)) (us_Q D cl tys (va_A w0 sz) rv post w1) rm.cells rm.slots (va_A w0 sz)
theorem us_ofH {S : Type} {l : Launch} {y : MethodName} {rm : Room} {D : va_G} {cl : List vw_C} {tys : List (ClassId × FieldType)} {av : List Value} {w0 : va_W} {rv : S → Option Value} {post : S → Prop} {w1 : S → va_W} {cc : ByteArray} {maxL : Nat} {ret : Option FieldType} {hh : List (Nat × Nat × Nat × Nat)}
    (hy : plainName y.cls = true) (hL : (lg_sl av).length ≤ maxL)
    (body : ∀ (p : Program) (e : Env) (s : State) (m : MethodId) (args : Array Value) (below : List Frame) (meth : Method) (c : Code) (A : Nat → Prop) (ls : Array Slot) (Q : State → Prop), (∀ t, MQ below (us_Q D cl tys A rv post w1) args s rm.cells rm.slots A t → Q t) → p.tables.exec = Jvm.exec → c.code = cc → meth.sig.returnType = ret → c.maxLocals = maxL → (∀ w ∈ usW, w.before args s = true) →
      s.vm.findClass y.cls = some m.cls → meth.locks = false → l.admits e → c.exceptionTable.toList.map (fun h => (h.startPc, h.endPc, h.handlerPc, h.catchType)) = hh → A = va_A w0 s.heap.size → us_EL s → lv_has ls maxL (lv_args 0 av) → va_K D cl tys s → va_P D cl w0 s.heap → va_D A w0 → va_S A s.heap s.heap [] → (∀ q : Nat, s.heap.size ≤ q → A q) →
      W p l e rm s m args below meth c s.heap [] 0 0 Q (F0 m 0 ls [])) : us_MetH l y (Cond.codeWith y cc maxL ret hh :: usW) rm D cl tys av w0 rv post w1 := by
  intro sz
  refine va_MetW (cc := cc) (maxL := maxL) (ret := ret) (hh := hh) hy rfl ?_
  intro p e s m args below meth c s₁ B hml hv
  obtain ⟨rfl, ⟨hsz, hP, hK, hD0⟩, hE⟩ := hv
  subst hsz
  have hD := hD0.self (sz := s.heap.size)
  have hl := lv_entry av (n := maxL) hL
  have hat := atoms_spec (ws := Cond.codeWith y cc maxL ret hh :: usW) B.pre
  obtain ⟨m9, meth9, c9, hn9, hm9, hc9, -, -, htab, -, -, -⟩ := Cond.codeWith_spec (hat _ List.mem_cons_self)
  cases B.named.symm.trans hn9
  cases B.method.symm.trans hm9
  have hcc : meth.code = some c := by
    have h1 := B.here.code
    rw [State.code?_eq, B.state] at h1
    have h2 : (s.vm.method? m).bind (fun q => q.code) = some c := h1
    rw [B.method] at h2
    exact h2
  cases hcc.symm.trans hc9
  rw [lg_entry_eq]
  exact body p e s m av.toArray below meth c (va_A w0 s.heap.size) _ _ (fun _ h => h) B.exec B.bytes B.returns hml (fun w hw => hat w (List.mem_cons_of_mem _ hw)) (findClass_of_methodNamed B.named) B.notSynchronized B.admits htab rfl hE hl hK hP hD va_S.rf (fun q h => Or.inr h)
