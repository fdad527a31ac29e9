theorem us_t1 {w : Cond} (k : Nat) (h : tables_1_1[k]? = some w) : w ∈ lw_tbl := List.mem_append_right _ (show w ∈ tables_1 from List.mem_append_left _ (List.mem_of_getElem? h))
theorem us_t2 {w : Cond} (k : Nat) (h : tables_1_2[k]? = some w) : w ∈ lw_tbl := List.mem_append_right _ (show w ∈ tables_1 from List.mem_append_right _ (List.mem_append_left _ (List.mem_of_getElem? h)))
theorem us_t3 {w : Cond} (k : Nat) (h : tables_1_3[k]? = some w) : w ∈ lw_tbl := List.mem_append_right _ (show w ∈ tables_1 from List.mem_append_right _ (List.mem_append_right _ (List.mem_append_left _ (List.mem_of_getElem? h))))
theorem us_t4 {w : Cond} (k : Nat) (h : tables_1_4[k]? = some w) : w ∈ lw_tbl := List.mem_append_right _ (show w ∈ tables_1 from List.mem_append_right _ (List.mem_append_right _ (List.mem_append_right _ (List.mem_of_getElem? h))))
theorem us_arrT {s : State} {args : Array Value} {ty : FieldType} (hty : ∀ C, ty ≠ .object C) (h : (Cond.arrayClass ty).before args s = true) : ∃ cA : ClassId, ArrOfT s cA ty ∧ va_RA s cA ty := by
  obtain ⟨c, k, comp, hc, hk, hkind⟩ := Cond.arrayClass_spec h
  refine ⟨c, fun n z => ⟨fun q h => by simp [arrV] at h, k, hk, comp, hkind⟩, ?_⟩
  cases ty with
  | object C => exact absurd rfl (hty C)
  | _ => exact hc
theorem us_arrO {s : State} {args : Array Value} {C : String} (h : (Cond.arrayOver (.object C)).before args s = true) : ∃ cA : ClassId, ArrOfT s cA (.object C) ∧ va_RA s cA (.object C) := by
  obtain ⟨comp, c, k, h1, h2, h3, h4, h5⟩ := Cond.arrayOver_spec h
  exact ⟨c, fun n z => ⟨fun q h => by simp [arrV] at h, k, h3, comp, h4⟩, k, comp, h3, h4, h1, h5⟩
theorem us_known {s : State} {args : Array Value} (hts : ∀ w ∈ usW, w.before args s = true) : ∃ (dC : Nat → ClassId) (dI : Nat → Nat → Nat), ∀ (c : Nat) (q : vw_C), vwCl[c]? = some q → u_Kn s q.1 q.2.1 q.2.2 (dC c) (dI c) := by
  obtain ⟨c0, i0, k0⟩ := u_known (C := "UpcastStreams$Row") (T := F_Row) (N := 5) hts in_Row (hts _ uw_1_33)
  obtain ⟨c1, i1, k1⟩ := u_known (C := "UpcastStreams$State") (T := F_State) (N := 8) hts in_State (hts _ uw_1_129)
  obtain ⟨c2, i2, k2⟩ := u_known (C := "UpcastStreams$Reader") (T := F_Reader) (N := 4) hts in_Reader (hts _ uw_1_175)
  obtain ⟨c3, i3, k3⟩ := u_known (C := "UpcastStreams$Log") (T := F_Log) (N := 4) hts in_Log (hts _ uw_1_76)
  obtain ⟨c4, i4, k4⟩ := u_known (C := "UpcastStreams$Hand") (T := F_Hand) (N := 3) hts in_Hand (hts _ uw_1_196)
  obtain ⟨c5, i5, k5⟩ := u_known (C := "UpcastStreams$Rules") (T := F_Rules) (N := 4) hts in_Rules (hts _ uw_1_101)
  obtain ⟨c6, i6, k6⟩ := u_known (C := "UpcastStreams$Shelf") (T := F_Shelf) (N := 4) hts in_Shelf (hts _ uw_1_123)
  obtain ⟨c7, i7, k7⟩ := u_known (C := "UpcastStreams") (T := F_X) (N := 9) hts in_X (hts _ uw_1_19)
  obtain ⟨c8, i8, k8⟩ := u_known (C := "UpcastStreamsModel") (T := F_M) (N := 29) hts in_M (hts _ uw_3_122)
  refine ⟨fun c => match c with | 0 => c0 | 1 => c1 | 2 => c2 | 3 => c3 | 4 => c4 | 5 => c5 | 6 => c6 | 7 => c7 | _ => c8, fun c => match c with | 0 => i0 | 1 => i1 | 2 => i2 | 3 => i3 | 4 => i4 | 5 => i5 | 6 => i6 | 7 => i7 | _ => i8, ?_⟩
  intro c q hq
  match c, hq with
  | 0, hq => cases hq; exact k0
  | 1, hq => cases hq; exact k1
  | 2, hq => cases hq; exact k2
  | 3, hq => cases hq; exact k3
  | 4, hq => cases hq; exact k4
  | 5, hq => cases hq; exact k5
  | 6, hq => cases hq; exact k6
  | 7, hq => cases hq; exact k7
  | 8, hq => cases hq; exact k8
  | c + 9, hq => simp [vwCl] at hq
theorem us_NLin : ∀ w ∈ us_NL, w ∈ lw_tbl := by
  intro w hw
  simp only [us_NL, List.mem_cons, List.not_mem_nil, or_false] at hw
  rcases hw with rfl | rfl | rfl | rfl | rfl | rfl | rfl
  · exact us_t1 77 rfl
  · exact us_t1 102 rfl
  · exact us_t1 124 rfl
  · exact us_t1 130 rfl
  · exact us_t1 176 rfl
  · exact us_t1 197 rfl
  · exact us_t1 215 rfl
theorem us_N0 {s : State} {args : Array Value} (hts : ∀ w ∈ lw_tbl, w.before args s = true) : us_N s :=
  ⟨fun w hw => by
    have h1 := hts w (us_NLin w hw)
    obtain ⟨a, i, x, b, rfl⟩ := us_NL_m hw
    exact va_Nw.of rfl h1, va_AO.of (hts _ (us_t1 122 rfl)), va_AO.of (hts _ (us_t1 174 rfl))⟩
theorem us_EL0 {s : State} {args : Array Value} (hts : ∀ w ∈ lw_tbl, w.before args s = true) (hgv : (Jvm.Cond.and given_1 narrow_1).before args s = true) : us_EL s := by
  have hs := flat_of_before _ hgv
  have a0 := hts _ (us_t2 74 rfl)
  have a1 := hts _ (us_t2 76 rfl)
  have a2 := hts _ (us_t2 78 rfl)
  have a3 := hts _ (us_t2 73 rfl)
  have a4 := hts _ (us_t2 137 rfl)
  have a5 := hts _ (us_t2 152 rfl)
  have a6 := hts _ (us_t3 18 rfl)
  have a7 := hts _ (us_t2 98 rfl)
  have a8 := hts _ (us_t2 100 rfl)
  have b0 : (Cond.isRef (.static "java/lang/Throwable" "UNASSIGNED_STACK" "[Ljava/lang/StackTraceElement;")).before args s = true := hs _ (by decide +kernel)
  have b1 : (Cond.isRef (.static "java/lang/Throwable" "SUPPRESSED_SENTINEL" "Ljava/util/List;")).before args s = true := hs _ (by decide +kernel)
  refine ⟨⟨fun args2 w hw => ?_, fun args2 w hw => ?_⟩, fun q hq k c h1 h2 => ?_⟩
  · simp only [us_X1, List.mem_cons, List.not_mem_nil, or_false] at hw
    rcases hw with rfl | rfl | rfl | rfl | rfl | rfl | rfl | rfl | rfl
    · exact va_Nw.use rfl (va_Nw.of rfl a0)
    · exact va_Nw.use rfl (va_Nw.of rfl a1)
    · exact va_Nw.use rfl (va_Nw.of rfl a2)
    · exact va_Nw.use rfl (va_Nw.of rfl a3)
    · exact va_Nw.use rfl (va_Nw.of rfl a4)
    · exact va_Nw.use rfl (va_Nw.of rfl a5)
    · exact va_Nw.use rfl (va_Nw.of rfl a6)
    · exact (us_stat (State.WarmedH.refl s) (fun _ _ h _ => h) a7).1
    · exact (us_stat (State.WarmedH.refl s) (fun _ _ h _ => h) a8).1
  · simp only [us_X2, List.mem_cons, List.not_mem_nil, or_false] at hw
    rcases hw with rfl | rfl
    · exact (us_stat (State.WarmedH.refl s) (fun _ _ h _ => h) a7).2 b0
    · exact (us_stat (State.WarmedH.refl s) (fun _ _ h _ => h) a8).2 b1
  · simp only [us_X3, List.mem_cons, List.not_mem_nil, or_false] at hq
    rcases hq with rfl | rfl | rfl
    · exact us_ncast (args := args) (hs _ (show Cond.not (.castable "java/lang/IllegalStateException" "java/lang/IllegalArgumentException") ∈ _ by decide +kernel)) h1 h2
    · exact us_ncast (args := args) (hs _ (show Cond.not (.castable "java/lang/UnsupportedOperationException" "java/lang/IllegalArgumentException") ∈ _ by decide +kernel)) h1 h2
    · exact us_ncast (args := args) (hs _ (show Cond.not (.castable "java/lang/UnsupportedOperationException" "java/lang/IllegalStateException") ∈ _ by decide +kernel)) h1 h2
/-- from the entry, for every script of at most 2561 ints, the law comes to its end with true -/
theorem whole_start {p : Program} {e : Env} {s : State} {m : MethodId} {below : List Frame} {meth : Method} {c : Code} (l : Launch) (htr : ∀ e : Env, l.admits e → e.platform.stackTraces = false) {b L : Nat} {xs : Nat → Int32} (hL : L ≤ 2561) (C0 : lw_At p s m meth c b L xs) : W p l e room_1 s m #[Value.ref b] below meth c s.heap [] 0 0 (lw_Z below #[Value.ref b] s) (entryFrame m ([Value.ref b] : List Value).toArray 7) := by
  obtain ⟨hx, hb, hr, hml, hown, hts0, hX, hbl, hlk, hgv⟩ := C0
  have hts : ∀ w ∈ usW, w.before #[Value.ref b] s = true := fun w hw => hts0 w (List.mem_filter.mp hw).1
  obtain ⟨dC, dI, hK1⟩ := us_known hts
  obtain ⟨cI, hI1, hI2⟩ := us_arrT (ty := .int) (fun _ h => by cases h) (hts _ uw_1_74)
  obtain ⟨cL, hL1, hL2⟩ := us_arrT (ty := .long) (fun _ h => by cases h) (hts _ uw_3_219)
  obtain ⟨cS, hS1, hS2⟩ := us_arrO (hts0 _ (us_t1 122 rfl))
  obtain ⟨cR, hR1, hR2⟩ := us_arrO (hts0 _ (us_t1 174 rfl))
  have hK : va_K (dC, dI) vwCl (us_ty cI cL cS cR) s := ⟨hK1, fun k q hk => by
    match k, hk with
    | 0, hk => cases hk; exact ⟨hI1, hI2⟩
    | 1, hk => cases hk; exact ⟨hL1, hL2⟩
    | 2, hk => cases hk; exact ⟨hS1, hS2⟩
    | 3, hk => cases hk; exact ⟨hR1, hR2⟩
    | k + 4, hk => simp [us_ty] at hk⟩
  have hl := lv_entry [Value.ref b] (n := 7) (Nat.le_of_ble_eq_true rfl)
  rw [lg_entry_eq]
  exact us_entry ⟨hx, hb, hr, hml, hts, hown, hlk, hX, hbl, hK, us_EL0 hts0 hgv, us_N0 hts0, htr, hL⟩ hl
