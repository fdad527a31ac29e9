/-! constructors: contracts with a further word of the state's tables (nest links, arrays of references) -/
def us_NL : List Cond := [.methodLinkNest "UpcastStreams" 33 ⟨"UpcastStreams$Log", "<init>", "()V"⟩ "UpcastStreams", .methodLinkNest "UpcastStreams" 40 ⟨"UpcastStreams$Rules", "<init>", "()V"⟩ "UpcastStreams", .methodLinkNest "UpcastStreams" 51 ⟨"UpcastStreams$Shelf", "<init>", "()V"⟩ "UpcastStreams", .methodLinkNest "UpcastStreams$Shelf" 11 ⟨"UpcastStreams$State", "<init>", "()V"⟩ "UpcastStreams", .methodLinkNest "UpcastStreams" 58 ⟨"UpcastStreams$Reader", "<init>", "()V"⟩ "UpcastStreams", .methodLinkNest "UpcastStreams" 61 ⟨"UpcastStreams$Hand", "<init>", "()V"⟩ "UpcastStreams", .methodLinkNest "UpcastStreams" 68 ⟨"UpcastStreams$State", "<init>", "()V"⟩ "UpcastStreams"]
def us_N (U : State) : Prop := (∀ w ∈ us_NL, va_Nw w U) ∧ va_AO "UpcastStreams$Shelf" U ∧ va_AO "UpcastStreams$Reader" U
theorem us_NL_m {w : Cond} (h : w ∈ us_NL) : ∃ (a : String) (i : Nat) (x : MethodName) (b : String), w = .methodLinkNest a i x b := by
  simp only [us_NL, List.mem_cons, List.not_mem_nil, or_false] at h
  rcases h with rfl | rfl | rfl | rfl | rfl | rfl | rfl <;> exact ⟨_, _, _, _, rfl⟩
theorem us_N.warm {s U : State} (hW : s.WarmedH U.vm) (h : us_N s) : us_N U := by
  refine ⟨fun w hw => ?_, va_AO.moved hW.alike h.2.1, va_AO.moved hW.alike h.2.2⟩
  have h1 := h.1 w hw
  obtain ⟨a, i, x, b, rfl⟩ := us_NL_m hw
  exact va_Nw.warmM hW h1
theorem us_N.calling {U : State} {g : JFrame} {mk : MethodId} {a : Array Value} (h : us_N U) : us_N (U.calling g mk a) := by
  refine ⟨fun w hw => ?_, va_AO.moved (Vm.Alike.refl U.vm) h.2.1, va_AO.moved (Vm.Alike.refl U.vm) h.2.2⟩
  have h1 := h.1 w hw
  obtain ⟨a, i, x, b, rfl⟩ := us_NL_m hw
  exact va_Nw.same (u := U) rfl rfl h1
def us_MetN {S : Type} (l : Launch) (y : MethodName) (ws : List Cond) (rm : Room) (D : va_G) (cl : List vw_C) (tys : List (ClassId × FieldType)) (av : List Value) (w0 : va_W) (rv : S → Option Value) (post : S → Prop) (w1 : S → va_W) : Prop :=
  ∀ sz : Nat, Met l y ws rm (va_Pc av (fun U => us_Pre D cl tys w0 sz U ∧ us_N U)) (us_Q D cl tys (va_A w0 sz) rv post w1) rm.cells rm.slots (va_A w0 sz)
theorem us_ofN {S : Type} {l : Launch} {y : MethodName} {rm : Room} {D : va_G} {cl : List vw_C} {tys : List (ClassId × FieldType)} {av : List Value} {w0 : va_W} {rv : S → Option Value} {post : S → Prop} {w1 : S → va_W} {cc : ByteArray} {maxL : Nat} {ret : Option FieldType}
    (hy : plainName y.cls = true) (hL : (lg_sl av).length ≤ maxL)
    (body : ∀ (p : Program) (e : Env) (s : State) (m : MethodId) (args : Array Value) (below : List Frame) (meth : Method) (c : Code) (A : Nat → Prop) (ls : Array Slot) (Q : State → Prop), (∀ t, MQ below (us_Q D cl tys A rv post w1) args s rm.cells rm.slots A t → Q t) → p.tables.exec = Jvm.exec → c.code = cc → meth.sig.returnType = ret → c.maxLocals = maxL → (∀ w ∈ usW, w.before args s = true) →
      s.vm.findClass y.cls = some m.cls → meth.locks = false → meth.name = y.name → us_N s → lv_has ls maxL (lv_args 0 av) → va_K D cl tys s → va_P D cl w0 s.heap → va_D A w0 → va_S A s.heap s.heap [] → (∀ q : Nat, s.heap.size ≤ q → A q) →
      W p l e rm s m args below meth c s.heap [] 0 0 Q (F0 m 0 ls [])) : us_MetN l y (Cond.code y cc maxL ret :: usW) rm D cl tys av w0 rv post w1 := by
  intro sz
  refine Met.ofW (cc := cc) (maxL := maxL) (ret := ret) hy rfl ?_
  intro p e s m args below meth c s₁ B hml hv
  obtain ⟨rfl, ⟨hsz, hP, hK, hD0⟩, hN⟩ := hv
  subst hsz
  have hD := hD0.self (sz := s.heap.size)
  have hl := lv_entry av (n := maxL) hL
  rw [lg_entry_eq]
  exact body p e s m av.toArray below meth c (va_A w0 s.heap.size) _ _ (fun _ h => h) B.exec B.bytes B.returns hml (fun w hw => atoms_spec (ws := Cond.code y cc maxL ret :: usW) B.pre w (List.mem_cons_of_mem _ hw)) (findClass_of_methodNamed B.named) B.notSynchronized (name_of_methodNamed B.named B.method).1 hN hl hK hP hD va_S.rf (fun q h => Or.inr h)
section USN
variable {p : Program} {l : Launch} {e : Env} {R : Room} {s : State} {m : MethodId} {args : Array Value} {below : List Frame} {meth : Method} {c : Code} {H : Heap} {locs : List Loc} {cells slots : Nat} {Q : State → Prop}
variable {S : Type} {D : va_G} {cl : List vw_C} {tys : List (ClassId × FieldType)} {A : Nat → Prop} {rv : S → Option Value} {post : S → Prop} {w1 : S → va_W} {cc : ByteArray} {pc : Nat} {ls : Array Slot}
theorem us_blindN {av : List Value} {w0 : va_W} {sz : Nat} : FrameBlind (va_Pc av (fun U => us_Pre D cl tys w0 sz U ∧ us_N U)) := fun a U g mk q => by
  obtain ⟨q0, ⟨q1, qP, qK, qD⟩, qN⟩ := q
  exact ⟨q0, ⟨q1, qP, va_K.moved (u := U) (U := U.calling g mk a) (Vm.Alike.refl U.vm) qK, qD⟩, qN.calling⟩
/-- a constructor by a nest link, its contract plain -/
theorem us_cIN {Ts ws : List Cond} {bytes : ByteArray} {nL maxL index n N2 : Nat} {own host : String} {y : MethodName} {rm : Room} {b : Nat} {As rest st0 : List Value} {wsC wc : va_W} (w2 : S → va_W)
    (S0 : CallFix p m c cc nL s args Ts own) (hM : us_Met l y ws rm D cl tys (.ref b :: As) wc rv post w1) (cw : va_CN R s args own index y host bytes maxL none ws rm rm.cells rm.slots n ∧ y.name = "<init>" ∧ (Cond.instanceMethod y).before args s = true)
    (hK : va_K D cl tys s) (hP : va_P D cl wsC H) (hD : va_D A wsC) (hS : va_S A s.heap H locs) (hA : ∀ q : Nat, s.heap.size ≤ q → A q) (is is' isR : List Nat) (hC : is.map (fun i => wsC[i]?) = wc.map some) (hn : va_nd is = true) (h1 : ∀ u, is'.map (fun i => (w2 u)[i]?) = (w1 u).map some) (wr : va_W) (h2 : ∀ u, isR.map (fun i => (w2 u)[i]?) = wr.map some) (h3 : isR.map (fun i => wsC[i]?) = wr.map some) (hlen2 : ∀ u, (w2 u).length = N2) (hcov : ∀ k, k < N2 → k ∈ is' ∨ k ∈ isR) (hdis : ∀ i ∈ isR, i ∉ is)
    (hlen : As.length = n) (hsize : ls.size = nL) (hst : st0 = As.reverse ++ .ref b :: rest) (hW : (rest.map fun v => v.category).sum ≤ 8)
    (hd : decode cc pc = .ok (.invokespecial index, 3)) (hf : cells + rm.cells ≤ R.cells ∧ slots + rm.slots ≤ R.slots)
    (kk : ∀ (u : S) (H1 : Heap) (locs1 : List Loc), post u → va_P D cl (w2 u) H1 → va_D A (w2 u) → va_S A s.heap H1 locs1 → W p l e R s m args below meth c H1 locs1 (cells + rm.cells) (slots + rm.slots) Q (F0 m (pc + 3) ls ((rv u).toList ++ rest))) :
    W p l e R s m args below meth c H locs cells slots Q (F0 m pc ls st0) :=
  us_call2 (va_runIN S0 (hM H.size) cw ⟨us_blind, fun U hU hW => ⟨rfl, by rw [hU], by rw [hU]; exact us_part hP is hC, va_K.moved hW.alike hK, (hD.sub is hn hC).weaken (fun _ _ _ _ => trivial)⟩⟩ rfl hlen hsize hst (lv_room hW) hd hf) hP hD hS hA is is' isR hC h1 wr h2 h3 hlen2 hcov hdis kk
/-- a constructor by a nest link, its contract with nest words -/
theorem us_cINN {Ts ws : List Cond} {bytes : ByteArray} {nL maxL index n N2 : Nat} {own host : String} {y : MethodName} {rm : Room} {b : Nat} {As rest st0 : List Value} {wsC wc : va_W} (hN : us_N s) (w2 : S → va_W)
    (S0 : CallFix p m c cc nL s args Ts own) (hM : us_MetN l y ws rm D cl tys (.ref b :: As) wc rv post w1) (cw : va_CN R s args own index y host bytes maxL none ws rm rm.cells rm.slots n ∧ y.name = "<init>" ∧ (Cond.instanceMethod y).before args s = true)
    (hK : va_K D cl tys s) (hP : va_P D cl wsC H) (hD : va_D A wsC) (hS : va_S A s.heap H locs) (hA : ∀ q : Nat, s.heap.size ≤ q → A q) (is is' isR : List Nat) (hC : is.map (fun i => wsC[i]?) = wc.map some) (hn : va_nd is = true) (h1 : ∀ u, is'.map (fun i => (w2 u)[i]?) = (w1 u).map some) (wr : va_W) (h2 : ∀ u, isR.map (fun i => (w2 u)[i]?) = wr.map some) (h3 : isR.map (fun i => wsC[i]?) = wr.map some) (hlen2 : ∀ u, (w2 u).length = N2) (hcov : ∀ k, k < N2 → k ∈ is' ∨ k ∈ isR) (hdis : ∀ i ∈ isR, i ∉ is)
    (hlen : As.length = n) (hsize : ls.size = nL) (hst : st0 = As.reverse ++ .ref b :: rest) (hW : (rest.map fun v => v.category).sum ≤ 8)
    (hd : decode cc pc = .ok (.invokespecial index, 3)) (hf : cells + rm.cells ≤ R.cells ∧ slots + rm.slots ≤ R.slots)
    (kk : ∀ (u : S) (H1 : Heap) (locs1 : List Loc), post u → va_P D cl (w2 u) H1 → va_D A (w2 u) → va_S A s.heap H1 locs1 → W p l e R s m args below meth c H1 locs1 (cells + rm.cells) (slots + rm.slots) Q (F0 m (pc + 3) ls ((rv u).toList ++ rest))) :
    W p l e R s m args below meth c H locs cells slots Q (F0 m pc ls st0) :=
  us_call2 (va_runIN S0 (hM H.size) cw ⟨us_blindN, fun U hU hW => ⟨rfl, ⟨by rw [hU], by rw [hU]; exact us_part hP is hC, va_K.moved hW.alike hK, (hD.sub is hn hC).weaken (fun _ _ _ _ => trivial)⟩, hN.warm hW⟩⟩ rfl hlen hsize hst (lv_room hW) hd hf) hP hD hS hA is is' isR hC h1 wr h2 h3 hlen2 hcov hdis kk
/-- a constructor by a plain link, its contract with nest words -/
theorem us_cINP {Ts ws : List Cond} {bytes : ByteArray} {nL maxL index n N2 : Nat} {own : String} {y : MethodName} {rm : Room} {b : Nat} {As rest st0 : List Value} {wsC wc : va_W} (hN : us_N s) (w2 : S → va_W)
    (S0 : CallFix p m c cc nL s args Ts own) (hM : us_MetN l y ws rm D cl tys (.ref b :: As) wc rv post w1) (cw : CallB R s args own index y bytes maxL none ws rm rm.cells rm.slots n ∧ y.name = "<init>" ∧ (Cond.instanceMethod y).before args s = true)
    (hK : va_K D cl tys s) (hP : va_P D cl wsC H) (hD : va_D A wsC) (hS : va_S A s.heap H locs) (hA : ∀ q : Nat, s.heap.size ≤ q → A q) (is is' isR : List Nat) (hC : is.map (fun i => wsC[i]?) = wc.map some) (hn : va_nd is = true) (h1 : ∀ u, is'.map (fun i => (w2 u)[i]?) = (w1 u).map some) (wr : va_W) (h2 : ∀ u, isR.map (fun i => (w2 u)[i]?) = wr.map some) (h3 : isR.map (fun i => wsC[i]?) = wr.map some) (hlen2 : ∀ u, (w2 u).length = N2) (hcov : ∀ k, k < N2 → k ∈ is' ∨ k ∈ isR) (hdis : ∀ i ∈ isR, i ∉ is)
    (hlen : As.length = n) (hsize : ls.size = nL) (hst : st0 = As.reverse ++ .ref b :: rest) (hW : (rest.map fun v => v.category).sum ≤ 8)
    (hd : decode cc pc = .ok (.invokespecial index, 3)) (hf : cells + rm.cells ≤ R.cells ∧ slots + rm.slots ≤ R.slots)
    (kk : ∀ (u : S) (H1 : Heap) (locs1 : List Loc), post u → va_P D cl (w2 u) H1 → va_D A (w2 u) → va_S A s.heap H1 locs1 → W p l e R s m args below meth c H1 locs1 (cells + rm.cells) (slots + rm.slots) Q (F0 m (pc + 3) ls ((rv u).toList ++ rest))) :
    W p l e R s m args below meth c H locs cells slots Q (F0 m pc ls st0) :=
  us_call2 (va_runI S0 (hM H.size) cw ⟨us_blindN, fun U hU hW => ⟨rfl, ⟨by rw [hU], by rw [hU]; exact us_part hP is hC, va_K.moved hW.alike hK, (hD.sub is hn hC).weaken (fun _ _ _ _ => trivial)⟩, hN.warm hW⟩⟩ rfl hlen hsize hst (lv_room hW) hd hf) hP hD hS hA is is' isR hC h1 wr h2 h3 hlen2 hcov hdis kk
theorem us_astq {ws : va_W} {H0 : Heap} {a : Nat} {rest : List Value} (hexec : p.tables.exec = Jvm.exec) (hb : c.code = cc) (hK : va_K D cl tys s) (hP : va_P D cl ws H) (hD : va_D A ws) (hS : va_S A H0 H locs) (q0 t0 qk ci : Nat) {cA : ClassId} {r : vw_C} {n v j : Nat} {vs : List Value} {f : Nat → Option Nat} (ha : ws[q0]? = some (a, .inl (cA, n, .inr (.inr (.inr (.inr f)))))) (ht : tys[t0]? = some (cA, .object r.1)) (hv : ws[qk]? = some (v, .inr (ci, vs))) (hc : cl[ci]? = some r) {i : Int32} (hin : vp_in i n) (hj : i.toNatClampNeg = j) (hdg : decode cc pc = .ok (.aastore, 1))
    (kk : ∀ (H1 : Heap) (locs1 : List Loc), va_P D cl (ws.set q0 (a, .inl (cA, n, .inr (.inr (.inr (.inr (va_up f j (some v)))))))) H1 → va_D A (ws.set q0 (a, .inl (cA, n, .inr (.inr (.inr (.inr (va_up f j (some v)))))))) → va_S A H0 H1 locs1 → W p l e R s m args below meth c H1 locs1 cells slots Q (F0 m (pc + 1) ls rest)) : W p l e R s m args below meth c H locs cells slots Q (F0 m pc ls (.ref v :: .int i :: .ref a :: rest)) := by
  subst hj
  exact va_astq hexec hb hK hP hD hS q0 t0 qk ci ha ht hv hc hin hdg kk
/-- an array of references, said otherwise below its length -/
theorem us_rsame {ws : va_W} {a : Nat} (hP : va_P D cl ws H) (hD : va_D A ws) (q0 : Nat) {cA : ClassId} {n : Nat} {f g : Nat → Option Nat} (ha : ws[q0]? = some (a, .inl (cA, n, .inr (.inr (.inr (.inr f)))))) (hfg : ∀ i, i < n → f i = g i) :
    va_P D cl (ws.set q0 (a, .inl (cA, n, .inr (.inr (.inr (.inr g)))))) H ∧ va_D A (ws.set q0 (a, .inl (cA, n, .inr (.inr (.inr (.inr g)))))) := by
  refine ⟨hP.set hD ha ?_ (fun _ _ => rfl), hD.set ha⟩
  have h1 := hP q0 _ ha
  have h2 : H[a]? = some (vp_cell cA (n, .inr (.inr (.inr (.inr f))))) := h1
  show H[a]? = some (vp_cell cA (n, .inr (.inr (.inr (.inr g)))))
  rw [h2, vp_cell_q, vp_cell_q]
  congr 1
  unfold arrV
  congr 1
  apply Array.ext
  · simp
  · intro i h3 h4
    have hi : i < n := by simpa using h3
    simp [hfg i hi]
end USN
def us_nth (l : List Nat) (i : Nat) : Nat := l.getD i 0
