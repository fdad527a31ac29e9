/-! Contracts of methods that only read: nothing old changes. -/
def us_QR {S : Type} (A : Nat → Prop) (rv : S → Option Value) (post : S → Prop) : Array Value → State → Outcome → State → Prop := fun _ st oc t => (∃ u : S, oc = .returned (rv u) ∧ post u) ∧ va_F A st t
def us_MetR {S : Type} (l : Launch) (y : MethodName) (ws : List Cond) (rm : Room) (D : va_G) (cl : List vw_C) (tys : List (ClassId × FieldType)) (av : List Value) (w0 : va_W) (rv : S → Option Value) (post : S → Prop) : Prop :=
  ∀ sz : Nat, Met l y ws rm (va_Pc av (fun U => U.heap.size = sz ∧ va_P D cl w0 U.heap ∧ va_K D cl tys U)) (us_QR (fun q => sz ≤ q) rv post) rm.cells rm.slots (fun q => sz ≤ q)
theorem us_ofR {S : Type} {l : Launch} {y : MethodName} {rm : Room} {D : va_G} {cl : List vw_C} {tys : List (ClassId × FieldType)} {av : List Value} {w0 : va_W} {rv : S → Option Value} {post : S → Prop} {cc : ByteArray} {maxL : Nat} {ret : Option FieldType}
    (hy : plainName y.cls = true) (hL : (lg_sl av).length ≤ maxL)
    (body : ∀ (p : Program) (e : Env) (s : State) (m : MethodId) (args : Array Value) (below : List Frame) (meth : Method) (c : Code) (A : Nat → Prop) (ls : Array Slot) (Q : State → Prop), (∀ t, MQ below (us_QR A rv post) args s rm.cells rm.slots A t → Q t) → p.tables.exec = Jvm.exec → c.code = cc → meth.sig.returnType = ret → c.maxLocals = maxL → (∀ w ∈ usW, w.before args s = true) →
      s.vm.findClass y.cls = some m.cls → meth.locks = false → lv_has ls maxL (lv_args 0 av) → va_K D cl tys s → va_P D cl w0 s.heap → va_S A s.heap s.heap [] → (∀ q : Nat, s.heap.size ≤ q → A q) →
      W p l e rm s m args below meth c s.heap [] 0 0 Q (F0 m 0 ls [])) : us_MetR l y (Cond.code y cc maxL ret :: usW) rm D cl tys av w0 rv post := by
  intro sz
  refine Met.ofW (cc := cc) (maxL := maxL) (ret := ret) hy rfl ?_
  intro p e s m args below meth c s₁ B hml hv
  obtain ⟨rfl, hsz, hP, hK⟩ := hv
  subst hsz
  have hl := lv_entry av (n := maxL) hL
  rw [lg_entry_eq]
  exact body p e s m av.toArray below meth c (fun q => s.heap.size ≤ q) _ _ (fun _ h => h) B.exec B.bytes B.returns hml (fun w hw => atoms_spec (ws := Cond.code y cc maxL ret :: usW) B.pre w (List.mem_cons_of_mem _ hw)) (findClass_of_methodNamed B.named) B.notSynchronized hl hK hP va_S.rf (fun q h => h)
section USR
variable {p : Program} {l : Launch} {e : Env} {R : Room} {s : State} {m : MethodId} {args : Array Value} {below : List Frame} {meth : Method} {c : Code} {H : Heap} {locs : List Loc} {cells slots : Nat} {Q : State → Prop}
variable {S : Type} {D : va_G} {cl : List vw_C} {tys : List (ClassId × FieldType)} {A : Nat → Prop} {rv : S → Option Value} {post : S → Prop} {cc : ByteArray} {pc : Nat} {ls : Array Slot}
theorem us_riret {mc ms : Nat} (hQ : ∀ t, MQ below (us_QR A rv post) args s mc ms A t → Q t) (hc : cells ≤ mc) (hs : slots ≤ ms) (hx : p.tables.exec = Jvm.exec) (hb : c.code = cc) (hr : meth.sig.returnType = some .int) (hlocks : meth.locks = false) (hS : va_S A s.heap H locs) (u : S) {v : Int32} (hv : rv u = some (.int v)) (hp : post u) (hd : decode cc pc = .ok (.ireturn, 1)) :
    W p l e R s m args below meth c H locs cells slots Q (F0 m pc ls [.int v]) :=
  us_mono hQ (W.widen hc hs (W.iret hx hb hr (fun t ht hW => ⟨⟨u, by rw [hv], hp⟩, hS.F ht⟩) hS.2.2 hd hlocks))
theorem us_rzret {mc ms : Nat} (hQ : ∀ t, MQ below (us_QR A rv post) args s mc ms A t → Q t) (hc : cells ≤ mc) (hs : slots ≤ ms) (hx : p.tables.exec = Jvm.exec) (hb : c.code = cc) (hr : meth.sig.returnType = some .boolean) (hlocks : meth.locks = false) (hS : va_S A s.heap H locs) (u : S) {v : Int32} (hn : narrow .boolean (.int v) = .int v) (hv : rv u = some (.int v)) (hp : post u) (hd : decode cc pc = .ok (.ireturn, 1)) :
    W p l e R s m args below meth c H locs cells slots Q (F0 m pc ls [.int v]) :=
  us_mono hQ (W.widen hc hs (W.zret hx hb hr hn (fun t ht hW => ⟨⟨u, by rw [hv], hp⟩, hS.F ht⟩) hS.2.2 hd hlocks))
theorem us_callR {av : Array Value} {wsC : va_W} {mc ms : Nat} {rest st0 : List Value} (hr : va_Run p l e R s m args below meth c H locs cells slots mc ms (F0 m pc ls st0) rest (us_QR (fun q => H.size ≤ q) rv post av) (fun q => H.size ≤ q))
    (hP : va_P D cl wsC H) (hS : va_S A s.heap H locs) (hA : ∀ q : Nat, s.heap.size ≤ q → A q)
    (kk : ∀ (u : S) (H1 : Heap) (locs1 : List Loc), post u → va_P D cl wsC H1 → va_S A s.heap H1 locs1 → W p l e R s m args below meth c H1 locs1 (cells + mc) (slots + ms) Q (F0 m (pc + 3) ls ((rv u).toList ++ rest))) :
    W p l e R s m args below meth c H locs cells slots Q (F0 m pc ls st0) := by
  intro T hT X
  obtain ⟨v, st₀, t, T', L, h0, X', hL, e1, e2, ⟨⟨u, hv, hp⟩, hz, hk⟩, st⟩ := hr T hT X
  cases hv
  rw [h0] at hz hk
  have hk2 : ∀ q : Nat, q < H.size → T'.heap[q]? = H[q]? := fun q hq => by rw [e1]; exact hk q hq (by omega)
  obtain ⟨t2, a1, b1⟩ := kk u T'.heap (locs ++ L) hp (hP.kept (fun k q h => hk2 q.1 (hP k q h).lt))
    ⟨Nat.le_trans hS.1 (by rw [e1]; exact hz), fun q h1 h2 => by rw [hk2 q (Nat.lt_of_lt_of_le h1 hS.1)]; exact hS.2.1 q h1 h2, fun q hq => by
      rcases List.mem_append.mp hq with h | h
      · exact hS.2.2 q h
      · exact hA _ (Nat.le_trans hS.1 (hL q h))⟩ T' rfl X'
  exact ⟨t2, st t2 a1, b1⟩
theorem us_blindR {av : List Value} {w0 : va_W} {sz : Nat} : FrameBlind (va_Pc av (fun U => U.heap.size = sz ∧ va_P D cl w0 U.heap ∧ va_K D cl tys U)) := fun a U g mk q => by
  obtain ⟨q0, q1, qP, qK⟩ := q
  exact ⟨q0, q1, qP, va_K.moved (u := U) (U := U.calling g mk a) (Vm.Alike.refl U.vm) qK⟩
theorem us_callRV {Ts ws : List Cond} {bytes : ByteArray} {nL maxL index n ci N q0 : Nat} {own C : String} {y : MethodName} {ret : Option FieldType} {rm : Room} {b : Nat} {As rest st0 fs : List Value} {T : u_T} {wsC wc : va_W}
    (S0 : CallFix p m c cc nL s args Ts own) (hM : us_MetR l y ws rm D cl tys (.ref b :: As) wc rv post) (cw : CallW R s args own C index y bytes maxL ret ws rm rm.cells rm.slots n)
    (hK : va_K D cl tys s) (hP : va_P D cl wsC H) (hS : va_S A s.heap H locs) (hA : ∀ q : Nat, s.heap.size ≤ q → A q) (is : List Nat) (hC : is.map (fun i => wsC[i]?) = wc.map some)
    (he : wsC[q0]? = some (b, .inr (ci, fs))) (hc : cl[ci]? = some (C, T, N)) (hlen : As.length = n) (hsize : ls.size = nL) (hst : st0 = As.reverse ++ .ref b :: rest) (hW : (rest.map fun v => v.category).sum ≤ 8)
    (hd : decode cc pc = .ok (.invokevirtual index, 3)) (hf : cells + rm.cells ≤ R.cells ∧ slots + rm.slots ≤ R.slots)
    (kk : ∀ (u : S) (H1 : Heap) (locs1 : List Loc), post u → va_P D cl wsC H1 → va_S A s.heap H1 locs1 → W p l e R s m args below meth c H1 locs1 (cells + rm.cells) (slots + rm.slots) Q (F0 m (pc + 3) ls ((rv u).toList ++ rest))) :
    W p l e R s m args below meth c H locs cells slots Q (F0 m pc ls st0) :=
  us_callR (va_runV (C := C) S0 (hM H.size) cw ⟨us_blindR, va_recv hK hP hc he, fun U hU hW => ⟨rfl, by rw [hU], by rw [hU]; exact us_part hP is hC, va_K.moved hW.alike hK⟩⟩ rfl hlen hsize hst (lv_room hW) hd hf) hP hS hA kk
theorem us_callRS {Ts ws : List Cond} {bytes : ByteArray} {nL maxL index n : Nat} {own : String} {y : MethodName} {ret : Option FieldType} {rm : Room} {As rest st0 : List Value} {wsC wc : va_W}
    (S0 : CallFix p m c cc nL s args Ts own) (hM : us_MetR l y ws rm D cl tys As wc rv post) (cw : CallB R s args own index y bytes maxL ret ws rm rm.cells rm.slots n ∧ (Cond.static y).before args s = true)
    (hK : va_K D cl tys s) (hP : va_P D cl wsC H) (hS : va_S A s.heap H locs) (hA : ∀ q : Nat, s.heap.size ≤ q → A q) (is : List Nat) (hC : is.map (fun i => wsC[i]?) = wc.map some)
    (hlen : As.length = n) (hsize : ls.size = nL) (hst : st0 = As.reverse ++ rest) (hW : (rest.map fun v => v.category).sum ≤ 8)
    (hd : decode cc pc = .ok (.invokestatic index, 3)) (hf : cells + rm.cells ≤ R.cells ∧ slots + rm.slots ≤ R.slots)
    (kk : ∀ (u : S) (H1 : Heap) (locs1 : List Loc), post u → va_P D cl wsC H1 → va_S A s.heap H1 locs1 → W p l e R s m args below meth c H1 locs1 (cells + rm.cells) (slots + rm.slots) Q (F0 m (pc + 3) ls ((rv u).toList ++ rest))) :
    W p l e R s m args below meth c H locs cells slots Q (F0 m pc ls st0) :=
  us_callR (va_runS S0 (hM H.size) cw ⟨us_blindR, fun U hU hW => ⟨rfl, by rw [hU], by rw [hU]; exact us_part hP is hC, va_K.moved hW.alike hK⟩⟩ rfl hlen hsize hst (lv_room hW) hd hf) hP hS hA kk
theorem us_aldq {rest : List Value} {ws : va_W} {a : Nat} (hexec : p.tables.exec = Jvm.exec) (hb : c.code = cc) (hK : va_K D cl tys s) (hP : va_P D cl ws H) (q0 t0 : Nat) {cA : ClassId} {C : String} {n j r : Nat} {f : Nat → Option Nat} (ha : ws[q0]? = some (a, .inl (cA, n, .inr (.inr (.inr (.inr f)))))) (ht : tys[t0]? = some (cA, .object C)) {i : Int32} (hin : vp_in i n) (hj : i.toNatClampNeg = j) (hr : f j = some r) (hdg : decode cc pc = .ok (.aaload, 1))
    (kk : W p l e R s m args below meth c H locs cells slots Q (F0 m (pc + 1) ls (.ref r :: rest))) : W p l e R s m args below meth c H locs cells slots Q (F0 m pc ls (.int i :: .ref a :: rest)) := by
  subst hj
  refine va_aldq hexec hb hK hP q0 t0 ha ht hin hdg ?_
  rw [hr]
  exact kk
end USR
theorem us_ofTT {l : Launch} {y : MethodName} {rm : Room} {D : va_G} {cl : List vw_C} {tys : List (ClassId × FieldType)} {E : State → Prop} {av : List Value} {w0 : va_W} {cls : String} {cc : ByteArray} {maxL : Nat} {ret : Option FieldType}
    (hy : plainName y.cls = true) (hL : (lg_sl av).length ≤ maxL)
    (body : ∀ (p : Program) (e : Env) (s : State) (m : MethodId) (args : Array Value) (below : List Frame) (meth : Method) (c : Code) (A : Nat → Prop) (ls : Array Slot), l.admits e → p.tables.exec = Jvm.exec → c.code = cc → c.maxLocals = maxL → c.exceptionTable.isEmpty = true → (∀ w ∈ usW, w.before args s = true) →
      s.vm.findClass y.cls = some m.cls → meth.locks = false → lv_has ls maxL (lv_args 0 av) → va_K D cl tys s → E s → va_P D cl w0 s.heap → va_S A s.heap s.heap [] → (∀ q : Nat, s.heap.size ≤ q → A q) → (∀ q : Nat, A q → s.heap.size ≤ q) →
      W p l e rm s m args below meth c s.heap [] 0 0 (us_TQ below cls s) (F0 m 0 ls [])) : us_TMet l y (Cond.code y cc maxL ret :: usW) rm D cl tys E av w0 cls :=
  us_ofT (ret := ret) hy rfl hL (fun p e s m args below meth c A ls h1 h2 h3 h4 h5 h6 h7 h8 h9 h10 h11 h12 _ h14 h15 h16 => body p e s m args below meth c A ls h1 h2 h3 h4 h5 (fun w hw => h6 w (List.mem_cons_of_mem _ hw)) h7 h8 h9 h10 h11 h12 h14 h15 h16)
