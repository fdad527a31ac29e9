/-! calls, the world behind given outright -/
theorem us_mapat {ws wc : va_W} {is : List Nat} (hC : is.map (fun i => ws[i]?) = wc.map some) {j : Nat} {q : Nat × va_E} (h : wc[j]? = some q) : ∃ i, is[j]? = some i ∧ ws[i]? = some q := by
  have h1 : (is.map (fun i => ws[i]?))[j]? = some (some q) := by rw [hC, List.getElem?_map, h]; rfl
  rw [List.getElem?_map] at h1
  cases hi : is[j]? with
  | none => rw [hi] at h1; cases h1
  | some i => rw [hi] at h1; exact ⟨i, rfl, Option.some.inj h1⟩
theorem us_atmap {ws wc : va_W} {is : List Nat} (hC : is.map (fun i => ws[i]?) = wc.map some) {j i : Nat} {q : Nat × va_E} (h : is[j]? = some i) (hq : ws[i]? = some q) : wc[j]? = some q := by
  have h1 : (is.map (fun i => ws[i]?))[j]? = some (some q) := by rw [List.getElem?_map, h]; exact congrArg some hq
  rw [hC, List.getElem?_map] at h1
  cases hw : wc[j]? with
  | none => rw [hw] at h1; cases h1
  | some z => rw [hw] at h1; exact Option.some.inj h1
theorem us_back2 {A0 : Nat → Prop} {D : va_G} {cl : List vw_C} {ws wc w1 w2 : va_W} {H H1 : Heap} (hP : va_P D cl ws H) (hD : va_D A0 ws) (is is' isR : List Nat) (hC : is.map (fun i => ws[i]?) = wc.map some) (h1 : is'.map (fun i => w2[i]?) = w1.map some) (h2 : isR.map (fun i => w2[i]?) = isR.map (fun i => ws[i]?))
    (hcov : ∀ k, k < w2.length → k ∈ is' ∨ k ∈ isR) (hdis : ∀ i ∈ isR, i ∉ is)
    (hk : ∀ q : Nat, q < H.size → ¬ va_A wc H.size q → H1[q]? = H[q]?) (hF : ∀ q, va_A wc H.size q → A0 q) (hP1 : va_P D cl w1 H1) (hD1 : va_D (va_A wc H.size) w1) : va_P D cl w2 H1 ∧ va_D A0 w2 := by
  have apart : ∀ (k : Nat) (q : Nat × va_E), k ∈ isR → ws[k]? = some q → q.1 < H.size ∧ ¬ va_A wc H.size q.1 := by
    intro k q hk1 hq
    have hlt := (hP k q hq).lt
    refine ⟨hlt, fun h => ?_⟩
    rcases h with ⟨j, ee, hj⟩ | h
    · obtain ⟨i, hi, h3⟩ := us_mapat hC hj
      have h4 := hD.1 k i q (q.1, ee) hq h3 rfl
      subst h4
      exact hdis k hk1 (List.mem_of_getElem? hi)
    · omega
  have key : ∀ (k : Nat) (q : Nat × va_E), w2[k]? = some q → (∃ j : Nat, is'[j]? = some k ∧ w1[j]? = some q) ∨ (k ∈ isR ∧ ws[k]? = some q) := by
    intro k q hq
    rcases hcov k (List.getElem?_eq_some_iff.mp hq).1 with h | h
    · obtain ⟨j, hj⟩ := List.getElem?_of_mem h
      exact Or.inl ⟨j, hj, us_atmap h1 hj hq⟩
    · refine Or.inr ⟨h, ?_⟩
      obtain ⟨j, hj⟩ := List.getElem?_of_mem h
      have h3 : (isR.map (fun i => w2[i]?))[j]? = (isR.map (fun i => ws[i]?))[j]? := by rw [h2]
      rw [List.getElem?_map, List.getElem?_map, hj] at h3
      have h4 : w2[k]? = ws[k]? := Option.some.inj h3
      rw [← h4]; exact hq
  refine ⟨fun k q hq => ?_, fun i j x y hx hy hxy => ?_, fun k q hq => ?_⟩
  · rcases key k q hq with ⟨j, -, h⟩ | ⟨h3, h4⟩
    · exact hP1 j q h
    · obtain ⟨g1, g2⟩ := apart k q h3 h4
      exact (hP k q h4).kept (hk q.1 g1 g2)
  · rcases key i x hx with ⟨a, ha, h⟩ | ⟨h3, h4⟩ <;> rcases key j y hy with ⟨b, hb, g⟩ | ⟨g3, g4⟩
    · have := hD1.1 a b x y h g hxy
      subst this
      exact Option.some.inj (ha.symm.trans hb)
    · exact absurd (hxy ▸ hD1.2 a x h) (apart j y g3 g4).2
    · exact absurd (hxy ▸ hD1.2 b y g) (apart i x h3 h4).2
    · exact hD.1 i j x y h4 g4 hxy
  · rcases key k q hq with ⟨j, -, h⟩ | ⟨h3, h4⟩
    · exact hF _ (hD1.2 j q h)
    · exact hD.2 k q h4
section USC2
variable {p : Program} {l : Launch} {e : Env} {R : Room} {s : State} {m : MethodId} {args : Array Value} {below : List Frame} {meth : Method} {c : Code} {H : Heap} {locs : List Loc} {cells slots : Nat} {Q : State → Prop}
variable {S : Type} {D : va_G} {cl : List vw_C} {tys : List (ClassId × FieldType)} {A : Nat → Prop} {rv : S → Option Value} {post : S → Prop} {w1 : S → va_W} {cc : ByteArray} {pc : Nat} {ls : Array Slot}
theorem us_call2 {av : Array Value} {wsC wc : va_W} {w2 : S → va_W} {mc ms N2 : Nat} {rest st0 : List Value} (hr : va_Run p l e R s m args below meth c H locs cells slots mc ms (F0 m pc ls st0) rest (us_Q D cl tys (va_A wc H.size) rv post w1 av) (va_A wc H.size))
    (hP : va_P D cl wsC H) (hD : va_D A wsC) (hS : va_S A s.heap H locs) (hA : ∀ q : Nat, s.heap.size ≤ q → A q) (is is' isR : List Nat) (hC : is.map (fun i => wsC[i]?) = wc.map some) (h1 : ∀ u, is'.map (fun i => (w2 u)[i]?) = (w1 u).map some) (wr : va_W) (h2 : ∀ u, isR.map (fun i => (w2 u)[i]?) = wr.map some) (h3 : isR.map (fun i => wsC[i]?) = wr.map some) (hlen : ∀ u, (w2 u).length = N2) (hcov : ∀ k, k < N2 → k ∈ is' ∨ k ∈ isR) (hdis : ∀ i ∈ isR, i ∉ is)
    (kk : ∀ (u : S) (H1 : Heap) (locs1 : List Loc), post u → va_P D cl (w2 u) H1 → va_D A (w2 u) → va_S A s.heap H1 locs1 → W p l e R s m args below meth c H1 locs1 (cells + mc) (slots + ms) Q (F0 m (pc + 3) ls ((rv u).toList ++ rest))) :
    W p l e R s m args below meth c H locs cells slots Q (F0 m pc ls st0) := by
  have hF := va_free (wc := wc) hD hS hA is hC
  intro T hT X
  obtain ⟨v, st₀, t, T', L, h0, X', hL, e1, e2, ⟨⟨u, hv, hp, hP1, hK1, hD1⟩, hz, hk⟩, st⟩ := hr T hT X
  cases hv
  rw [h0] at hz hk
  obtain ⟨hP2, hD2⟩ := us_back2 (H1 := T'.heap) hP hD is is' isR hC (h1 u) ((h2 u).trans h3.symm) (by rw [hlen u]; exact hcov) hdis (fun q g1 g2 => by rw [e1]; exact hk q g1 g2) hF (by rw [e1]; exact hP1) hD1
  obtain ⟨t2, a1, b1⟩ := kk u T'.heap (locs ++ L) hp hP2 hD2
    ⟨Nat.le_trans hS.1 (by rw [e1]; exact hz), fun q g1 g2 => by rw [e1, hk q (Nat.lt_of_lt_of_le g1 hS.1) (fun z => g2 (hF q z))]; exact hS.2.1 q g1 g2, fun q hq => by
      rcases List.mem_append.mp hq with h | h
      · exact hS.2.2 q h
      · exact hF _ (hL q h)⟩ T' rfl X'
  exact ⟨t2, st t2 a1, b1⟩
theorem us_cV {Ts ws : List Cond} {bytes : ByteArray} {nL maxL index n ci N q0 N2 : Nat} {own C : String} {y : MethodName} {ret : Option FieldType} {rm : Room} {b : Nat} {As rest st0 fs : List Value} {T : u_T} {wsC wc : va_W} (w2 : S → va_W)
    (S0 : CallFix p m c cc nL s args Ts own) (hM : us_Met l y ws rm D cl tys (.ref b :: As) wc rv post w1) (cw : CallW R s args own C index y bytes maxL ret ws rm rm.cells rm.slots n)
    (hK : va_K D cl tys s) (hP : va_P D cl wsC H) (hD : va_D A wsC) (hS : va_S A s.heap H locs) (hA : ∀ q : Nat, s.heap.size ≤ q → A q) (is is' isR : List Nat) (hC : is.map (fun i => wsC[i]?) = wc.map some) (hn : va_nd is = true) (h1 : ∀ u, is'.map (fun i => (w2 u)[i]?) = (w1 u).map some) (wr : va_W) (h2 : ∀ u, isR.map (fun i => (w2 u)[i]?) = wr.map some) (h3 : isR.map (fun i => wsC[i]?) = wr.map some) (hlen2 : ∀ u, (w2 u).length = N2) (hcov : ∀ k, k < N2 → k ∈ is' ∨ k ∈ isR) (hdis : ∀ i ∈ isR, i ∉ is)
    (he : wsC[q0]? = some (b, .inr (ci, fs))) (hc : cl[ci]? = some (C, T, N)) (hlen : As.length = n) (hsize : ls.size = nL) (hst : st0 = As.reverse ++ .ref b :: rest) (hW : (rest.map fun v => v.category).sum ≤ 8)
    (hd : decode cc pc = .ok (.invokevirtual index, 3)) (hf : cells + rm.cells ≤ R.cells ∧ slots + rm.slots ≤ R.slots)
    (kk : ∀ (u : S) (H1 : Heap) (locs1 : List Loc), post u → va_P D cl (w2 u) H1 → va_D A (w2 u) → va_S A s.heap H1 locs1 → W p l e R s m args below meth c H1 locs1 (cells + rm.cells) (slots + rm.slots) Q (F0 m (pc + 3) ls ((rv u).toList ++ rest))) :
    W p l e R s m args below meth c H locs cells slots Q (F0 m pc ls st0) :=
  us_call2 (va_runV (C := C) S0 (hM H.size) cw ⟨us_blind, va_recv hK hP hc he, fun U hU hW => ⟨rfl, by rw [hU], by rw [hU]; exact us_part hP is hC, va_K.moved hW.alike hK, (hD.sub is hn hC).weaken (fun _ _ _ _ => trivial)⟩⟩ rfl hlen hsize hst (lv_room hW) hd hf) hP hD hS hA is is' isR hC h1 wr h2 h3 hlen2 hcov hdis kk
theorem us_cS {Ts ws : List Cond} {bytes : ByteArray} {nL maxL index n N2 : Nat} {own : String} {y : MethodName} {ret : Option FieldType} {rm : Room} {As rest st0 : List Value} {wsC wc : va_W} (w2 : S → va_W)
    (S0 : CallFix p m c cc nL s args Ts own) (hM : us_Met l y ws rm D cl tys As wc rv post w1) (cw : CallB R s args own index y bytes maxL ret ws rm rm.cells rm.slots n ∧ (Cond.static y).before args s = true)
    (hK : va_K D cl tys s) (hP : va_P D cl wsC H) (hD : va_D A wsC) (hS : va_S A s.heap H locs) (hA : ∀ q : Nat, s.heap.size ≤ q → A q) (is is' isR : List Nat) (hC : is.map (fun i => wsC[i]?) = wc.map some) (hn : va_nd is = true) (h1 : ∀ u, is'.map (fun i => (w2 u)[i]?) = (w1 u).map some) (wr : va_W) (h2 : ∀ u, isR.map (fun i => (w2 u)[i]?) = wr.map some) (h3 : isR.map (fun i => wsC[i]?) = wr.map some) (hlen2 : ∀ u, (w2 u).length = N2) (hcov : ∀ k, k < N2 → k ∈ is' ∨ k ∈ isR) (hdis : ∀ i ∈ isR, i ∉ is)
    (hlen : As.length = n) (hsize : ls.size = nL) (hst : st0 = As.reverse ++ rest) (hW : (rest.map fun v => v.category).sum ≤ 8)
    (hd : decode cc pc = .ok (.invokestatic index, 3)) (hf : cells + rm.cells ≤ R.cells ∧ slots + rm.slots ≤ R.slots)
    (kk : ∀ (u : S) (H1 : Heap) (locs1 : List Loc), post u → va_P D cl (w2 u) H1 → va_D A (w2 u) → va_S A s.heap H1 locs1 → W p l e R s m args below meth c H1 locs1 (cells + rm.cells) (slots + rm.slots) Q (F0 m (pc + 3) ls ((rv u).toList ++ rest))) :
    W p l e R s m args below meth c H locs cells slots Q (F0 m pc ls st0) :=
  us_call2 (va_runS S0 (hM H.size) cw ⟨us_blind, fun U hU hW => ⟨rfl, by rw [hU], by rw [hU]; exact us_part hP is hC, va_K.moved hW.alike hK, (hD.sub is hn hC).weaken (fun _ _ _ _ => trivial)⟩⟩ rfl hlen hsize hst (lv_room hW) hd hf) hP hD hS hA is is' isR hC h1 wr h2 h3 hlen2 hcov hdis kk
theorem us_cI {Ts ws : List Cond} {bytes : ByteArray} {nL maxL index n N2 : Nat} {own : String} {y : MethodName} {rm : Room} {b : Nat} {As rest st0 : List Value} {wsC wc : va_W} (w2 : S → va_W)
    (S0 : CallFix p m c cc nL s args Ts own) (hM : us_Met l y ws rm D cl tys (.ref b :: As) wc rv post w1) (cw : CallB R s args own index y bytes maxL none ws rm rm.cells rm.slots n ∧ y.name = "<init>" ∧ (Cond.instanceMethod y).before args s = true)
    (hK : va_K D cl tys s) (hP : va_P D cl wsC H) (hD : va_D A wsC) (hS : va_S A s.heap H locs) (hA : ∀ q : Nat, s.heap.size ≤ q → A q) (is is' isR : List Nat) (hC : is.map (fun i => wsC[i]?) = wc.map some) (hn : va_nd is = true) (h1 : ∀ u, is'.map (fun i => (w2 u)[i]?) = (w1 u).map some) (wr : va_W) (h2 : ∀ u, isR.map (fun i => (w2 u)[i]?) = wr.map some) (h3 : isR.map (fun i => wsC[i]?) = wr.map some) (hlen2 : ∀ u, (w2 u).length = N2) (hcov : ∀ k, k < N2 → k ∈ is' ∨ k ∈ isR) (hdis : ∀ i ∈ isR, i ∉ is)
    (hlen : As.length = n) (hsize : ls.size = nL) (hst : st0 = As.reverse ++ .ref b :: rest) (hW : (rest.map fun v => v.category).sum ≤ 8)
    (hd : decode cc pc = .ok (.invokespecial index, 3)) (hf : cells + rm.cells ≤ R.cells ∧ slots + rm.slots ≤ R.slots)
    (kk : ∀ (u : S) (H1 : Heap) (locs1 : List Loc), post u → va_P D cl (w2 u) H1 → va_D A (w2 u) → va_S A s.heap H1 locs1 → W p l e R s m args below meth c H1 locs1 (cells + rm.cells) (slots + rm.slots) Q (F0 m (pc + 3) ls ((rv u).toList ++ rest))) :
    W p l e R s m args below meth c H locs cells slots Q (F0 m pc ls st0) :=
  us_call2 (va_runI S0 (hM H.size) cw ⟨us_blind, fun U hU hW => ⟨rfl, by rw [hU], by rw [hU]; exact us_part hP is hC, va_K.moved hW.alike hK, (hD.sub is hn hC).weaken (fun _ _ _ _ => trivial)⟩⟩ rfl hlen hsize hst (lv_room hW) hd hf) hP hD hS hA is is' isR hC h1 wr h2 h3 hlen2 hcov hdis kk
end USC2
