/-! the law: its context, its reader of the script -/
theorem us_gCW {y : MethodName} {bytes : ByteArray} {maxL : Nat} {ret : Option FieldType} {hh : List (Nat × Nat × Nat × Nat)} (h5 : Cond.codeWith y bytes maxL ret hh ∈ usW) : GoodIn usW (Cond.codeWith y bytes maxL ret hh :: usW) := fun w hw => us_gw (by
  rcases List.mem_cons.mp hw with rfl | h
  · exact h5
  · exact h)
theorem us_hELw {s : State} {H : Heap} {locs : List Loc} (hS : va_S (fun q => s.heap.size ≤ q) s.heap H locs) (hEL : us_EL s) : ∀ U : State, U.heap = H → s.WarmedH U.vm → us_EL U := fun U hU hW =>
  us_EL.moved hW (fun a cell h1 _ => by
    have hlt := (Array.getElem?_eq_some_iff.mp h1).1
    rw [hU, hS.2.1 a hlt (by intro h; have : s.heap.size ≤ a := h; omega)]
    exact h1) hEL
def us_LC (zp : Program) (zl : Launch) (zs : State) (zm : MethodId) (meth : Method) (zc : Code) (b L : Nat) (xs : Nat → Int32) (dC : Nat → ClassId) (dI : Nat → Nat → Nat) (cI cL cS cR : ClassId) : Prop :=
  (zp.tables.exec = Jvm.exec) ∧ (zc.code = code) ∧ (meth.sig.returnType = ret) ∧ (zc.maxLocals = 7) ∧ (∀ w ∈ usW, w.before #[Value.ref b] zs = true) ∧ (zs.vm.findClass "UpcastStreamsLaw" = some zm.cls) ∧ (meth.locks = false) ∧ (va_X b L xs zs zs.heap) ∧ (b < zs.heap.size) ∧ (va_K (dC, dI) vwCl (us_ty cI cL cS cR) zs) ∧ (us_EL zs) ∧ (us_N zs) ∧ (∀ e : Env, zl.admits e → e.platform.stackTraces = false) ∧ (L ≤ 2561)
def us_MetX (l : Launch) (y : MethodName) (ws : List Cond) (rm : Room) (b L : Nat) (xs : Nat → Int32) (av : List Value) (v : Int32) : Prop :=
  ∀ sz : Nat, Met l y ws rm (va_Pc av (fun U => U.heap.size = sz ∧ va_X b L xs U U.heap ∧ b < sz)) (us_QR (S := Unit) (fun q => sz ≤ q) (fun _ => some (.int v)) (fun _ => True)) rm.cells rm.slots (fun q => sz ≤ q)
theorem c_L_cell (l : Launch) (b L : Nat) (xs : Nat → Int32) (hL : L < 2 ^ 31) : us_MetX l y_L_cell w_L_cell { frames := 0, cells := 0, slots := 0, locals := 0 } b L xs [.ref b, .int 0] (us_c0 L xs) := by
  intro sz
  refine Met.ofW (cc := b_L_cell) (maxL := 2) (ret := some .int) (by decide) rfl ?_
  intro p e s m args below meth c s₁ B hml hv
  obtain ⟨rfl, hsz, hX, hbl⟩ := hv
  subst hsz
  have hl := lv_entry [Value.ref b, Value.int 0] (n := 2) (Nat.le_of_ble_eq_true rfl)
  rw [lg_entry_eq]
  have hx := B.exec
  have hb := B.bytes
  have hr := B.returns
  have hlk := B.notSynchronized
  have hS : va_S (fun q => s.heap.size ≤ q) s.heap s.heap [] := va_S.rf
  have hbA : ¬ (fun q => s.heap.size ≤ q) b := fun h => by have : s.heap.size ≤ b := h; omega
  have hl := (show lv_has _ 2 [(0, Value.ref b), (1, Value.int 0)] from hl)
  refine lv_iload_n hx hb d_L_cell_0 rfl (lv_at hl 1 rfl) ?_
  refine lv_aload_n hx hb d_L_cell_1 rfl (lv_at hl 0 rfl) ?_
  refine va_slen hx hb hX hbl hbA hS d_L_cell_2 ?_
  refine us_top (show Int32.ofNat L = nI L from rfl) ?_
  refine lv_icmp_ge (tgt := 12) hx hb d_L_cell_3 (by decide) (fun h => ?_) (fun h => ?_)
  · have h0 : ¬ 0 < L := fun z => absurd h (nI_ge (a := 0) z hL)
    refine lv_iconst (v := (0 : Int32)) hx hb d_L_cell_12 (by decide) ?_
    exact us_riret (S := Unit) (fun _ h => h) (by decide) (by decide) hx hb hr hlk hS () (by show some (Value.int (us_c0 L xs)) = some (Value.int 0); unfold us_c0; rw [if_neg h0]) trivial d_L_cell_13
  · have h0 : 0 < L := by
      rcases Nat.eq_zero_or_pos L with z | z
      · exact absurd (by rw [z]; decide) h
      · exact z
    refine lv_aload_n hx hb d_L_cell_6 rfl (lv_at hl 0 rfl) ?_
    refine lv_iload_n hx hb d_L_cell_7 rfl (lv_at hl 1 rfl) ?_
    refine va_sld hx hb hX hbl hbA hS (i := 0) (vp_in_nI (n := 0) h0 hL) d_L_cell_8 ?_
    refine lv_goto (tgt := 13) hx hb d_L_cell_9 (by decide) ?_
    exact us_riret (S := Unit) (fun _ h => h) (by decide) (by decide) hx hb hr hlk hS () (by show some (Value.int (us_c0 L xs)) = some (Value.int (xs (0 : Int32).toNatClampNeg)); unfold us_c0; rw [if_pos h0]; rfl) trivial d_L_cell_13
section USX
variable {p : Program} {l : Launch} {e : Env} {R : Room} {s : State} {m : MethodId} {args : Array Value} {below : List Frame} {meth : Method} {c : Code} {H : Heap} {locs : List Loc} {cells slots : Nat} {Q : State → Prop}
variable {D : va_G} {cl : List vw_C} {A : Nat → Prop} {cc : ByteArray} {pc : Nat} {ls : Array Slot}
theorem us_blindX {av : List Value} {b L : Nat} {xs : Nat → Int32} {sz : Nat} : FrameBlind (va_Pc av (fun U => U.heap.size = sz ∧ va_X b L xs U U.heap ∧ b < sz)) := fun a U g mk q => by
  obtain ⟨q0, q1, qX, qb⟩ := q
  exact ⟨q0, q1, va_X.moved (u := U) (U := U.calling g mk a) (Vm.Alike.refl U.vm) qX, qb⟩
theorem us_cellc {Ts ws : List Cond} {bytes : ByteArray} {nL maxL index n : Nat} {own : String} {y : MethodName} {ret : Option FieldType} {rm : Room} {As rest st0 : List Value} {wsC : va_W} {b L : Nat} {xs : Nat → Int32} {v : Int32}
    (S0 : CallFix p m c cc nL s args Ts own) (hM : us_MetX l y ws rm b L xs As v) (cw : CallB R s args own index y bytes maxL ret ws rm rm.cells rm.slots n ∧ (Cond.static y).before args s = true)
    (hX : va_X b L xs s s.heap) (hbl : b < s.heap.size) (hbA : ¬ A b) (hP : va_P D cl wsC H) (hD : va_D A wsC) (hS : va_S A s.heap H locs) (hA : ∀ q : Nat, s.heap.size ≤ q → A q)
    (hlen : As.length = n) (hsize : ls.size = nL) (hst : st0 = As.reverse ++ rest) (hW : (rest.map fun v => v.category).sum ≤ 8)
    (hd : decode cc pc = .ok (.invokestatic index, 3)) (hf : cells + rm.cells ≤ R.cells ∧ slots + rm.slots ≤ R.slots)
    (kk : ∀ (H1 : Heap) (locs1 : List Loc), va_P D cl wsC H1 → va_D A wsC → va_S A s.heap H1 locs1 → W p l e R s m args below meth c H1 locs1 (cells + rm.cells) (slots + rm.slots) Q (F0 m (pc + 3) ls (.int v :: rest))) :
    W p l e R s m args below meth c H locs cells slots Q (F0 m pc ls st0) :=
  us_callR (va_runS S0 (hM H.size) cw ⟨us_blindX, fun U hU hW => ⟨rfl, by rw [hU], by rw [hU]; exact va_X.moved hW.alike (hX.kept (hS.2.1 b hbl hbA)), Nat.lt_of_lt_of_le hbl hS.1⟩⟩ rfl hlen hsize hst (lv_room hW) hd hf) hP hS hA (fun _ H1 locs1 _ hP1 hS1 => kk H1 locs1 hP1 hD hS1)
end USX
