set_option maxHeartbeats 4000000 in
set_option maxRecDepth 100000 in
theorem c_X_isType (zl : Launch) (dC : Nat → ClassId) (dI : Nat → Nat → Nat) (cI cL cS cR : ClassId) (y : Int32)  : us_MetR (S := Int32) zl y_X_isType w_X_isType ({ frames := 0, cells := 0, slots := 0, locals := 0 }) (dC, dI) vwCl (us_ty cI cL cS cR) [.int y] [] (fun u => some (.int u)) (fun u => u = us_b (decide (0 ≤ y ∧ y < 6))) := by
  refine us_ofR (cc := b_X_isType) (maxL := 1) (ret := (some .boolean)) (by decide) (Nat.le_of_ble_eq_true rfl) ?_
  intro zp ze zs zm args below meth zc zA ls zQ hQ hx hb hr hml hts hown hlk hl hK hP hS hA
  have hown : zs.vm.findClass "UpcastStreams" = some zm.cls := hown
  have hl : lv_has ls 1 [(0, .int y)] := hl
  obtain ⟨H, hH⟩ : ∃ H, H = zs.heap := ⟨_, rfl⟩
  rw [← hH] at hP ⊢
  have hS : va_S zA zs.heap H [] := hH ▸ hS
  generalize ([] : List Loc) = locs at hS ⊢
  refine lv_iload_n hx hb d_X_isType_0 rfl (lv_at hl 0 rfl) ?_
  refine lv_if_lt (tgt := 14) hx hb d_X_isType_1 (by decide) (fun c1 => ?_) (fun c1 => ?_)
  · refine lv_iconst (v := (0 : Int32)) hx hb d_X_isType_14 (by decide) ?_
    exact us_rzret hQ (by decide) (by decide) hx hb hr hlk hS (0 : Int32) (by decide) rfl (by first | (rw [decide_eq_true ⟨Int32.not_lt.mp c1, Int32.not_le.mp c2⟩]; rfl) | (rw [decide_eq_false (fun q => absurd q.1 (Int32.not_le.mpr c1))]; rfl) | (rw [decide_eq_false (fun q => absurd q.2 (Int32.not_lt.mpr c2))]; rfl)) d_X_isType_15
  · refine lv_iload_n hx hb d_X_isType_4 rfl (lv_at hl 0 rfl) ?_
    refine lv_bipush (v := (6 : Int32)) hx hb d_X_isType_5 (by decide) ?_
    refine lv_icmp_ge (tgt := 14) hx hb d_X_isType_7 (by decide) (fun c2 => ?_) (fun c2 => ?_)
    · refine lv_iconst (v := (0 : Int32)) hx hb d_X_isType_14 (by decide) ?_
      exact us_rzret hQ (by decide) (by decide) hx hb hr hlk hS (0 : Int32) (by decide) rfl (by first | (rw [decide_eq_true ⟨Int32.not_lt.mp c1, Int32.not_le.mp c2⟩]; rfl) | (rw [decide_eq_false (fun q => absurd q.1 (Int32.not_le.mpr c1))]; rfl) | (rw [decide_eq_false (fun q => absurd q.2 (Int32.not_lt.mpr c2))]; rfl)) d_X_isType_15
    · refine lv_iconst (v := (1 : Int32)) hx hb d_X_isType_10 (by decide) ?_
      refine lv_goto (tgt := 15) hx hb d_X_isType_11 (by decide) ?_
      exact us_rzret hQ (by decide) (by decide) hx hb hr hlk hS (1 : Int32) (by decide) rfl (by first | (rw [decide_eq_true ⟨Int32.not_lt.mp c1, Int32.not_le.mp c2⟩]; rfl) | (rw [decide_eq_false (fun q => absurd q.1 (Int32.not_le.mpr c1))]; rfl) | (rw [decide_eq_false (fun q => absurd q.2 (Int32.not_lt.mpr c2))]; rfl)) d_X_isType_15

set_option maxHeartbeats 4000000 in
set_option maxRecDepth 100000 in
theorem c_X_isStream (zl : Launch) (dC : Nat → ClassId) (dI : Nat → Nat → Nat) (cI cL cS cR : ClassId) (y : Int32)  : us_MetR (S := Int32) zl y_X_isStream w_X_isStream ({ frames := 0, cells := 0, slots := 0, locals := 0 }) (dC, dI) vwCl (us_ty cI cL cS cR) [.int y] [] (fun u => some (.int u)) (fun u => u = us_b (decide (0 ≤ y ∧ y < 8))) := by
  refine us_ofR (cc := b_X_isStream) (maxL := 1) (ret := (some .boolean)) (by decide) (Nat.le_of_ble_eq_true rfl) ?_
  intro zp ze zs zm args below meth zc zA ls zQ hQ hx hb hr hml hts hown hlk hl hK hP hS hA
  have hown : zs.vm.findClass "UpcastStreams" = some zm.cls := hown
  have hl : lv_has ls 1 [(0, .int y)] := hl
  obtain ⟨H, hH⟩ : ∃ H, H = zs.heap := ⟨_, rfl⟩
  rw [← hH] at hP ⊢
  have hS : va_S zA zs.heap H [] := hH ▸ hS
  generalize ([] : List Loc) = locs at hS ⊢
  refine lv_iload_n hx hb d_X_isStream_0 rfl (lv_at hl 0 rfl) ?_
  refine lv_if_lt (tgt := 14) hx hb d_X_isStream_1 (by decide) (fun c1 => ?_) (fun c1 => ?_)
  · refine lv_iconst (v := (0 : Int32)) hx hb d_X_isStream_14 (by decide) ?_
    exact us_rzret hQ (by decide) (by decide) hx hb hr hlk hS (0 : Int32) (by decide) rfl (by first | (rw [decide_eq_true ⟨Int32.not_lt.mp c1, Int32.not_le.mp c2⟩]; rfl) | (rw [decide_eq_false (fun q => absurd q.1 (Int32.not_le.mpr c1))]; rfl) | (rw [decide_eq_false (fun q => absurd q.2 (Int32.not_lt.mpr c2))]; rfl)) d_X_isStream_15
  · refine lv_iload_n hx hb d_X_isStream_4 rfl (lv_at hl 0 rfl) ?_
    refine lv_bipush (v := (8 : Int32)) hx hb d_X_isStream_5 (by decide) ?_
    refine lv_icmp_ge (tgt := 14) hx hb d_X_isStream_7 (by decide) (fun c2 => ?_) (fun c2 => ?_)
    · refine lv_iconst (v := (0 : Int32)) hx hb d_X_isStream_14 (by decide) ?_
      exact us_rzret hQ (by decide) (by decide) hx hb hr hlk hS (0 : Int32) (by decide) rfl (by first | (rw [decide_eq_true ⟨Int32.not_lt.mp c1, Int32.not_le.mp c2⟩]; rfl) | (rw [decide_eq_false (fun q => absurd q.1 (Int32.not_le.mpr c1))]; rfl) | (rw [decide_eq_false (fun q => absurd q.2 (Int32.not_lt.mpr c2))]; rfl)) d_X_isStream_15
    · refine lv_iconst (v := (1 : Int32)) hx hb d_X_isStream_10 (by decide) ?_
      refine lv_goto (tgt := 15) hx hb d_X_isStream_11 (by decide) ?_
      exact us_rzret hQ (by decide) (by decide) hx hb hr hlk hS (1 : Int32) (by decide) rfl (by first | (rw [decide_eq_true ⟨Int32.not_lt.mp c1, Int32.not_le.mp c2⟩]; rfl) | (rw [decide_eq_false (fun q => absurd q.1 (Int32.not_le.mpr c1))]; rfl) | (rw [decide_eq_false (fun q => absurd q.2 (Int32.not_lt.mpr c2))]; rfl)) d_X_isStream_15

set_option maxHeartbeats 4000000 in
set_option maxRecDepth 100000 in
theorem c_X_isReader (zl : Launch) (dC : Nat → ClassId) (dI : Nat → Nat → Nat) (cI cL cS cR : ClassId) (y : Int32)  : us_MetR (S := Int32) zl y_X_isReader w_X_isReader ({ frames := 0, cells := 0, slots := 0, locals := 0 }) (dC, dI) vwCl (us_ty cI cL cS cR) [.int y] [] (fun u => some (.int u)) (fun u => u = us_b (decide (0 ≤ y ∧ y < 4))) := by
  refine us_ofR (cc := b_X_isReader) (maxL := 1) (ret := (some .boolean)) (by decide) (Nat.le_of_ble_eq_true rfl) ?_
  intro zp ze zs zm args below meth zc zA ls zQ hQ hx hb hr hml hts hown hlk hl hK hP hS hA
  have hown : zs.vm.findClass "UpcastStreams" = some zm.cls := hown
  have hl : lv_has ls 1 [(0, .int y)] := hl
  obtain ⟨H, hH⟩ : ∃ H, H = zs.heap := ⟨_, rfl⟩
  rw [← hH] at hP ⊢
  have hS : va_S zA zs.heap H [] := hH ▸ hS
  generalize ([] : List Loc) = locs at hS ⊢
  refine lv_iload_n hx hb d_X_isReader_0 rfl (lv_at hl 0 rfl) ?_
  refine lv_if_lt (tgt := 13) hx hb d_X_isReader_1 (by decide) (fun c1 => ?_) (fun c1 => ?_)
  · refine lv_iconst (v := (0 : Int32)) hx hb d_X_isReader_13 (by decide) ?_
    exact us_rzret hQ (by decide) (by decide) hx hb hr hlk hS (0 : Int32) (by decide) rfl (by first | (rw [decide_eq_true ⟨Int32.not_lt.mp c1, Int32.not_le.mp c2⟩]; rfl) | (rw [decide_eq_false (fun q => absurd q.1 (Int32.not_le.mpr c1))]; rfl) | (rw [decide_eq_false (fun q => absurd q.2 (Int32.not_lt.mpr c2))]; rfl)) d_X_isReader_14
  · refine lv_iload_n hx hb d_X_isReader_4 rfl (lv_at hl 0 rfl) ?_
    refine lv_iconst (v := (4 : Int32)) hx hb d_X_isReader_5 (by decide) ?_
    refine lv_icmp_ge (tgt := 13) hx hb d_X_isReader_6 (by decide) (fun c2 => ?_) (fun c2 => ?_)
    · refine lv_iconst (v := (0 : Int32)) hx hb d_X_isReader_13 (by decide) ?_
      exact us_rzret hQ (by decide) (by decide) hx hb hr hlk hS (0 : Int32) (by decide) rfl (by first | (rw [decide_eq_true ⟨Int32.not_lt.mp c1, Int32.not_le.mp c2⟩]; rfl) | (rw [decide_eq_false (fun q => absurd q.1 (Int32.not_le.mpr c1))]; rfl) | (rw [decide_eq_false (fun q => absurd q.2 (Int32.not_lt.mpr c2))]; rfl)) d_X_isReader_14
    · refine lv_iconst (v := (1 : Int32)) hx hb d_X_isReader_9 (by decide) ?_
      refine lv_goto (tgt := 14) hx hb d_X_isReader_10 (by decide) ?_
      exact us_rzret hQ (by decide) (by decide) hx hb hr hlk hS (1 : Int32) (by decide) rfl (by first | (rw [decide_eq_true ⟨Int32.not_lt.mp c1, Int32.not_le.mp c2⟩]; rfl) | (rw [decide_eq_false (fun q => absurd q.1 (Int32.not_le.mpr c1))]; rfl) | (rw [decide_eq_false (fun q => absurd q.2 (Int32.not_lt.mpr c2))]; rfl)) d_X_isReader_14

set_option maxHeartbeats 4000000 in
set_option maxRecDepth 100000 in
theorem c_X_isStored (zl : Launch) (dC : Nat → ClassId) (dI : Nat → Nat → Nat) (cI cL cS cR : ClassId) (x : Nat) (uh : Nat) (jh : Nat) (rh : Nat) (sa : Nat) (ra : Nat) (th : Nat) (lo : Nat) (tr : Nat) (pe : Int32) (vh : Nat) (vt : Nat) (vf : Nat) (va : Nat) (vb : Nat) (js : Nat) (jn : Nat) (jv : Nat) (n : Nat) (y : Int32)  : us_MetR (S := Int32) zl y_X_isStored w_X_isStored ({ frames := 0, cells := 0, slots := 0, locals := 0 }) (dC, dI) vwCl (us_ty cI cL cS cR) [.ref x, .int y] [(x, .inr (7, [.int pe, .ref uh, .ref jh, .ref rh, .ref sa, .ref ra, .ref th, .ref lo, .ref tr])), (jh, .inr (3, [.ref vh, .ref js, .ref jn, .ref jv])), (vh, .inr (0, [.ref vt, .ref vf, .ref va, .ref vb, .int (nI n)]))] (fun u => some (.int u)) (fun u => u = us_b (decide (0 ≤ y ∧ y < nI n))) := by
  refine us_ofR (cc := b_X_isStored) (maxL := 2) (ret := (some .boolean)) (by decide) (Nat.le_of_ble_eq_true rfl) ?_
  intro zp ze zs zm args below meth zc zA ls zQ hQ hx hb hr hml hts hown hlk hl hK hP hS hA
  have hown : zs.vm.findClass "UpcastStreams" = some zm.cls := hown
  have hl : lv_has ls 2 [(0, .ref x), (1, .int y)] := hl
  obtain ⟨H, hH⟩ : ∃ H, H = zs.heap := ⟨_, rfl⟩
  rw [← hH] at hP ⊢
  have hS : va_S zA zs.heap H [] := hH ▸ hS
  generalize ([] : List Loc) = locs at hS ⊢
  refine lv_iload_n hx hb d_X_isStored_0 rfl (lv_at hl 1 rfl) ?_
  refine lv_if_lt (tgt := 22) hx hb d_X_isStored_1 (by decide) (fun c1 => ?_) (fun c1 => ?_)
  · refine lv_iconst (v := (0 : Int32)) hx hb d_X_isStored_22 (by decide) ?_
    exact us_rzret hQ (by decide) (by decide) hx hb hr hlk hS (0 : Int32) (by decide) rfl (by first | (rw [decide_eq_true ⟨Int32.not_lt.mp c1, Int32.not_le.mp c2⟩]; rfl) | (rw [decide_eq_false (fun q => absurd q.1 (Int32.not_le.mpr c1))]; rfl) | (rw [decide_eq_false (fun q => absurd q.2 (Int32.not_lt.mpr c2))]; rfl)) d_X_isStored_23
  · refine lv_iload_n hx hb d_X_isStored_4 rfl (lv_at hl 1 rfl) ?_
    refine lv_aload_n hx hb d_X_isStored_5 rfl (lv_at hl 0 rfl) ?_
    refine va_get (D := (dC, dI)) (ci := 7) (v := .ref jh) (C := "UpcastStreams") (T := F_X) (N := 9) hx hb hts in_X hown hK hP 0 rfl rfl 2 (by decide) (hts _ uw_1_218) (fun _ h9 => h9) rfl d_X_isStored_6 ?_
    refine va_get (D := (dC, dI)) (ci := 3) (v := .ref vh) (C := "UpcastStreams$Log") (T := F_Log) (N := 4) hx hb hts in_Log hown hK hP 1 rfl rfl 0 (by decide) (hts _ uw_1_84) (fun _ h9 => h9) rfl d_X_isStored_9 ?_
    refine va_get (D := (dC, dI)) (ci := 0) (v := .int (nI n)) (C := "UpcastStreams$Row") (T := F_Row) (N := 5) hx hb hts in_Row hown hK hP 2 rfl rfl 4 (by decide) (hts _ uw_1_58) (fun _ h9 => h9) rfl d_X_isStored_12 ?_
    refine lv_icmp_ge (tgt := 22) hx hb d_X_isStored_15 (by decide) (fun c2 => ?_) (fun c2 => ?_)
    · refine lv_iconst (v := (0 : Int32)) hx hb d_X_isStored_22 (by decide) ?_
      exact us_rzret hQ (by decide) (by decide) hx hb hr hlk hS (0 : Int32) (by decide) rfl (by first | (rw [decide_eq_true ⟨Int32.not_lt.mp c1, Int32.not_le.mp c2⟩]; rfl) | (rw [decide_eq_false (fun q => absurd q.1 (Int32.not_le.mpr c1))]; rfl) | (rw [decide_eq_false (fun q => absurd q.2 (Int32.not_lt.mpr c2))]; rfl)) d_X_isStored_23
    · refine lv_iconst (v := (1 : Int32)) hx hb d_X_isStored_18 (by decide) ?_
      refine lv_goto (tgt := 23) hx hb d_X_isStored_19 (by decide) ?_
      exact us_rzret hQ (by decide) (by decide) hx hb hr hlk hS (1 : Int32) (by decide) rfl (by first | (rw [decide_eq_true ⟨Int32.not_lt.mp c1, Int32.not_le.mp c2⟩]; rfl) | (rw [decide_eq_false (fun q => absurd q.1 (Int32.not_le.mpr c1))]; rfl) | (rw [decide_eq_false (fun q => absurd q.2 (Int32.not_lt.mpr c2))]; rfl)) d_X_isStored_23

set_option maxHeartbeats 4000000 in
set_option maxRecDepth 100000 in
theorem c_X_stage (zl : Launch) (dC : Nat → ClassId) (dI : Nat → Nat → Nat) (cI cL cS cR : ClassId) (x : Nat) (uh : Nat) (jh : Nat) (rh : Nat) (sa : Nat) (ra : Nat) (th : Nat) (lo : Nat) (tr : Nat) (pe : Int32) (uh : Nat) (ut : Nat) (uf : Nat) (ua : Nat) (ub : Nat) (un : Nat) (uT : Nat → Int32) (uF : Nat → Int32) (uU : Nat → Int32) (uV : Nat → Int32) (t : Int32) (f : Int32) (a : Int32) (b : Int32) (bs : List us_Ev) (hrow : us_row uT uF uU uV bs) (hn : un = bs.length) (hn4 : un ≤ 4) : us_Met (S := Int32 × (Nat → Int32) × (Nat → Int32) × (Nat → Int32) × (Nat → Int32) × Nat) zl y_X_stage w_X_stage ({ frames := 1, cells := 0, slots := 0, locals := 24 }) (dC, dI) vwCl (us_ty cI cL cS cR) [.ref x, .int t, .int f, .int a, .int b] [(x, .inr (7, [.int pe, .ref uh, .ref jh, .ref rh, .ref sa, .ref ra, .ref th, .ref lo, .ref tr])), (uh, .inr (0, [.ref ut, .ref uf, .ref ua, .ref ub, .int (nI un)])), (ut, .inl (cI, 4, .inl uT)), (uf, .inl (cI, 4, .inl uF)), (ua, .inl (cI, 4, .inl uU)), (ub, .inl (cI, 4, .inl uV))] (fun u => some (.int u.1)) (fun u => ((un < 4 ∧ (0 ≤ t ∧ t < 6) ∧ 1 ≤ f ∧ f ≤ 3) → u.1 = 1 ∧ us_row u.2.1 u.2.2.1 u.2.2.2.1 u.2.2.2.2.1 (bs ++ [(t.toNatClampNeg, f.toNatClampNeg, a, b)]) ∧ u.2.2.2.2.2 = un + 1) ∧ (¬ (un < 4 ∧ (0 ≤ t ∧ t < 6) ∧ 1 ≤ f ∧ f ≤ 3) → u.1 = 0 ∧ us_row u.2.1 u.2.2.1 u.2.2.2.1 u.2.2.2.2.1 bs ∧ u.2.2.2.2.2 = un)) (fun u => [(x, .inr (7, [.int pe, .ref uh, .ref jh, .ref rh, .ref sa, .ref ra, .ref th, .ref lo, .ref tr])), (uh, .inr (0, [.ref ut, .ref uf, .ref ua, .ref ub, .int (nI u.2.2.2.2.2)])), (ut, .inl (cI, 4, .inl u.2.1)), (uf, .inl (cI, 4, .inl u.2.2.1)), (ua, .inl (cI, 4, .inl u.2.2.2.1)), (ub, .inl (cI, 4, .inl u.2.2.2.2.1))]) := by
  refine us_ofW (cc := b_X_stage) (maxL := 5) (ret := (some .boolean)) (by decide) (Nat.le_of_ble_eq_true rfl) ?_
  intro zp ze zs zm args below meth zc zA ls zQ hQ hx hb hr hml hts hown hlk hin hl hK hP hD hS hA
  have hown : zs.vm.findClass "UpcastStreams" = some zm.cls := hown
  have hl : lv_has ls 5 [(0, .ref x), (1, .int t), (2, .int f), (3, .int a), (4, .int b)] := hl
  obtain ⟨H, hH⟩ : ∃ H, H = zs.heap := ⟨_, rfl⟩
  rw [← hH] at hP ⊢
  have hS : va_S zA zs.heap H [] := hH ▸ hS
  generalize ([] : List Loc) = locs at hS ⊢
  refine lv_aload_n hx hb d_X_stage_0 rfl (lv_at hl 0 rfl) ?_
  refine va_get (D := (dC, dI)) (ci := 7) (v := .ref uh) (C := "UpcastStreams") (T := F_X) (N := 9) hx hb hts in_X hown hK hP 0 rfl rfl 1 (by decide) (hts _ uw_1_217) (fun _ h9 => h9) rfl d_X_stage_1 ?_
  refine va_get (D := (dC, dI)) (ci := 0) (v := .int (nI un)) (C := "UpcastStreams$Row") (T := F_Row) (N := 5) hx hb hts in_Row hown hK hP 1 rfl rfl 4 (by decide) (hts _ uw_1_58) (fun _ h9 => h9) rfl d_X_stage_4 ?_
  refine lv_iconst (v := (4 : Int32)) hx hb d_X_stage_7 (by decide) ?_
  refine lv_icmp_ge (tgt := 28) hx hb d_X_stage_8 (by decide) (fun c8 => ?_) (fun c8 => ?_)
  · refine lv_iconst (v := (0 : Int32)) hx hb d_X_stage_28 (by decide) ?_
    exact us_zret hQ (by decide) (by decide) hx hb hr hlk hK hS ((0 : Int32), uT, uF, uU, uV, un) (by decide) rfl (⟨fun q => by first | exact absurd (nI_lt (b := 4) q.1 (by omega)) (Int32.not_lt.mpr c8) | exact absurd q.2.1 (us_d0 w12 c15) | exact absurd q.2.2.1 (Int32.not_le.mpr c20) | exact absurd q.2.2.2 c25, fun _ => ⟨rfl, hrow, rfl⟩⟩) hP hD d_X_stage_29
  · refine lv_iload_n hx hb d_X_stage_11 rfl (lv_at hl 1 rfl) ?_
    refine us_callRS (As := [.int t]) (rest := []) ⟨hx, hb, hml, hown, hts⟩ (c_X_isType zl dC dI cI cL cS cR t ) ⟨callB_of 1 hts (us_gC k_X_isType) rfl rfl rfl (hts _ uw_1_1) (hts _ uw_2_8) h_X_isType.2 ⟨by decide, by decide⟩, (hts _ uw_2_9)⟩ hK hP hS hA [] rfl rfl hl.1 rfl (Nat.le_of_ble_eq_true rfl) d_X_stage_12 ⟨by decide, by decide⟩ (fun u H locs w12 hP hS => ?_)
    obtain ⟨r12, rfl⟩ : ∃ z, z = u := ⟨_, rfl⟩
    try dsimp only at w12
    refine W.eq (g2 := F0 zm 15 ls [.int r12]) rfl ?_
    refine lv_if_eq (tgt := 28) hx hb d_X_stage_15 (by decide) (fun c15 => ?_) (fun c15 => ?_)
    · refine lv_iconst (v := (0 : Int32)) hx hb d_X_stage_28 (by decide) ?_
      exact us_zret hQ (by decide) (by decide) hx hb hr hlk hK hS ((0 : Int32), uT, uF, uU, uV, un) (by decide) rfl (⟨fun q => by first | exact absurd (nI_lt (b := 4) q.1 (by omega)) (Int32.not_lt.mpr c8) | exact absurd q.2.1 (us_d0 w12 c15) | exact absurd q.2.2.1 (Int32.not_le.mpr c20) | exact absurd q.2.2.2 c25, fun _ => ⟨rfl, hrow, rfl⟩⟩) hP hD d_X_stage_29
    · refine lv_iload_n hx hb d_X_stage_18 rfl (lv_at hl 2 rfl) ?_
      refine lv_iconst (v := (1 : Int32)) hx hb d_X_stage_19 (by decide) ?_
      refine lv_icmp_lt (tgt := 28) hx hb d_X_stage_20 (by decide) (fun c20 => ?_) (fun c20 => ?_)
      · refine lv_iconst (v := (0 : Int32)) hx hb d_X_stage_28 (by decide) ?_
        exact us_zret hQ (by decide) (by decide) hx hb hr hlk hK hS ((0 : Int32), uT, uF, uU, uV, un) (by decide) rfl (⟨fun q => by first | exact absurd (nI_lt (b := 4) q.1 (by omega)) (Int32.not_lt.mpr c8) | exact absurd q.2.1 (us_d0 w12 c15) | exact absurd q.2.2.1 (Int32.not_le.mpr c20) | exact absurd q.2.2.2 c25, fun _ => ⟨rfl, hrow, rfl⟩⟩) hP hD d_X_stage_29
      · refine lv_iload_n hx hb d_X_stage_23 rfl (lv_at hl 2 rfl) ?_
        refine lv_iconst (v := (3 : Int32)) hx hb d_X_stage_24 (by decide) ?_
        refine lv_icmp_le (tgt := 30) hx hb d_X_stage_25 (by decide) (fun c25 => ?_) (fun c25 => ?_)
        · have hlt : un < 4 := by rcases Nat.lt_or_ge un 4 with z | z; exact z; exact absurd (nI_le (a := 4) z (by omega)) c8
          have hv := us_d1 w12 c15
          have hf1 : 1 ≤ f := Int32.not_lt.mp c20
          have hf0 : 0 ≤ f := Int32.le_trans (by decide) hf1
          refine lv_aload_n hx hb d_X_stage_30 rfl (lv_at hl 0 rfl) ?_
          refine va_get (D := (dC, dI)) (ci := 7) (v := .ref uh) (C := "UpcastStreams") (T := F_X) (N := 9) hx hb hts in_X hown hK hP 0 rfl rfl 1 (by decide) (hts _ uw_1_217) (fun _ h9 => h9) rfl d_X_stage_31 ?_
          refine lv_iload_n hx hb d_X_stage_34 rfl (lv_at hl 1 rfl) ?_
          refine lv_iload_n hx hb d_X_stage_35 rfl (lv_at hl 2 rfl) ?_
          refine lv_iload_n hx hb d_X_stage_36 rfl (lv_at hl 3 rfl) ?_
          refine lv_iload hx hb d_X_stage_37 (lv_at hl 4 rfl) ?_
          refine us_cV (q0 := 1) (As := [.int t, .int f, .int a, .int b]) (rest := []) (N2 := 6) (fun u => [(x, .inr (7, [.int pe, .ref uh, .ref jh, .ref rh, .ref sa, .ref ra, .ref th, .ref lo, .ref tr])), (uh, .inr (0, [.ref ut, .ref uf, .ref ua, .ref ub, .int (nI (un + 1))])), (ut, .inl (cI, 4, .inl (upd uT un t))), (uf, .inl (cI, 4, .inl (upd uF un f))), (ua, .inl (cI, 4, .inl (upd uU un a))), (ub, .inl (cI, 4, .inl (upd uV un b)))]) ⟨hx, hb, hml, hown, hts⟩ (c_Row_put zl dC dI cI cL cS cR uh ut uf ua ub 4 un uT uF uU uV t f a b hlt (by decide)) (cwV 4 hts (us_gV uw_2_11 uw_2_12 uw_2_13 uw_1_3 k_Row_put) rfl rfl rfl h_Row_put ⟨by decide, by decide⟩) hK hP hD hS hA [1, 2, 3, 4, 5] [1, 2, 3, 4, 5] [0] rfl (by decide) (fun _ => rfl) [(x, .inr (7, [.int pe, .ref uh, .ref jh, .ref rh, .ref sa, .ref ra, .ref th, .ref lo, .ref tr]))] (fun _ => rfl) rfl (fun _ => rfl) (by decide) (by decide) rfl rfl rfl hl.1 rfl (Nat.le_of_ble_eq_true rfl) d_X_stage_39 ⟨by decide, by decide⟩ (fun u H locs w39 hP hD hS => ?_)
          have hP : va_P (dC, dI) vwCl [(x, .inr (7, [.int pe, .ref uh, .ref jh, .ref rh, .ref sa, .ref ra, .ref th, .ref lo, .ref tr])), (uh, .inr (0, [.ref ut, .ref uf, .ref ua, .ref ub, .int (nI (un + 1))])), (ut, .inl (cI, 4, .inl (upd uT un t))), (uf, .inl (cI, 4, .inl (upd uF un f))), (ua, .inl (cI, 4, .inl (upd uU un a))), (ub, .inl (cI, 4, .inl (upd uV un b)))] H := hP
          have hD : va_D zA [(x, .inr (7, [.int pe, .ref uh, .ref jh, .ref rh, .ref sa, .ref ra, .ref th, .ref lo, .ref tr])), (uh, .inr (0, [.ref ut, .ref uf, .ref ua, .ref ub, .int (nI (un + 1))])), (ut, .inl (cI, 4, .inl (upd uT un t))), (uf, .inl (cI, 4, .inl (upd uF un f))), (ua, .inl (cI, 4, .inl (upd uU un a))), (ub, .inl (cI, 4, .inl (upd uV un b)))] := hD
          try dsimp only at w39
          refine W.eq (g2 := F0 zm 42 ls []) rfl ?_
          refine lv_iconst (v := (1 : Int32)) hx hb d_X_stage_42 (by decide) ?_
          exact us_zret hQ (by decide) (by decide) hx hb hr hlk hK hS ((1 : Int32), (upd uT un t), (upd uF un f), (upd uU un a), (upd uV un b), (un + 1)) (by decide) rfl (⟨fun _ => ⟨rfl, by have z := us_row_put hrow (t.toNatClampNeg, f.toNatClampNeg, a, b) hn; rw [us_clamp hv.1, us_clamp hf0] at z; exact z, rfl⟩, fun q => absurd ⟨hlt, hv, hf1, c25⟩ q⟩) hP hD d_X_stage_43
        · refine lv_iconst (v := (0 : Int32)) hx hb d_X_stage_28 (by decide) ?_
          exact us_zret hQ (by decide) (by decide) hx hb hr hlk hK hS ((0 : Int32), uT, uF, uU, uV, un) (by decide) rfl (⟨fun q => by first | exact absurd (nI_lt (b := 4) q.1 (by omega)) (Int32.not_lt.mpr c8) | exact absurd q.2.1 (us_d0 w12 c15) | exact absurd q.2.2.1 (Int32.not_le.mpr c20) | exact absurd q.2.2.2 c25, fun _ => ⟨rfl, hrow, rfl⟩⟩) hP hD d_X_stage_29

set_option maxHeartbeats 4000000 in
set_option maxRecDepth 100000 in
theorem c_X_unstage (zl : Launch) (dC : Nat → ClassId) (dI : Nat → Nat → Nat) (cI cL cS cR : ClassId) (x : Nat) (uh : Nat) (jh : Nat) (rh : Nat) (sa : Nat) (ra : Nat) (th : Nat) (lo : Nat) (tr : Nat) (pe : Int32) (ut : Nat) (uf : Nat) (ua : Nat) (ub : Nat) (un : Nat)  : us_Met (S := Unit) zl y_X_unstage w_X_unstage ({ frames := 1, cells := 0, slots := 0, locals := 20 }) (dC, dI) vwCl (us_ty cI cL cS cR) [.ref x] [(x, .inr (7, [.int pe, .ref uh, .ref jh, .ref rh, .ref sa, .ref ra, .ref th, .ref lo, .ref tr])), (uh, .inr (0, [.ref ut, .ref uf, .ref ua, .ref ub, .int (nI un)]))] (fun u => some (.int (nI un))) (fun u => True) (fun u => [(x, .inr (7, [.int pe, .ref uh, .ref jh, .ref rh, .ref sa, .ref ra, .ref th, .ref lo, .ref tr])), (uh, .inr (0, [.ref ut, .ref uf, .ref ua, .ref ub, .int (nI 0)]))]) := by
  refine us_ofW (cc := b_X_unstage) (maxL := 2) (ret := (some .int)) (by decide) (Nat.le_of_ble_eq_true rfl) ?_
  intro zp ze zs zm args below meth zc zA ls zQ hQ hx hb hr hml hts hown hlk hin hl hK hP hD hS hA
  have hown : zs.vm.findClass "UpcastStreams" = some zm.cls := hown
  have hl : lv_has ls 2 [(0, .ref x)] := hl
  obtain ⟨H, hH⟩ : ∃ H, H = zs.heap := ⟨_, rfl⟩
  rw [← hH] at hP ⊢
  have hS : va_S zA zs.heap H [] := hH ▸ hS
  generalize ([] : List Loc) = locs at hS ⊢
  refine lv_aload_n hx hb d_X_unstage_0 rfl (lv_at hl 0 rfl) ?_
  refine va_get (D := (dC, dI)) (ci := 7) (v := .ref uh) (C := "UpcastStreams") (T := F_X) (N := 9) hx hb hts in_X hown hK hP 0 rfl rfl 1 (by decide) (hts _ uw_1_217) (fun _ h9 => h9) rfl d_X_unstage_1 ?_
  refine va_get (D := (dC, dI)) (ci := 0) (v := .int (nI un)) (C := "UpcastStreams$Row") (T := F_Row) (N := 5) hx hb hts in_Row hown hK hP 1 rfl rfl 4 (by decide) (hts _ uw_1_58) (fun _ h9 => h9) rfl d_X_unstage_4 ?_
  refine lv_istore_n (lv' := [(1, .int (nI un)), (0, .ref x)]) hx hb d_X_unstage_7 rfl hl (by decide) rfl (fun ls hl => ?_)
  refine lv_aload_n hx hb d_X_unstage_8 rfl (lv_at hl 1 rfl) ?_
  refine va_get (D := (dC, dI)) (ci := 7) (v := .ref uh) (C := "UpcastStreams") (T := F_X) (N := 9) hx hb hts in_X hown hK hP 0 rfl rfl 1 (by decide) (hts _ uw_1_217) (fun _ h9 => h9) rfl d_X_unstage_9 ?_
  refine us_cV (q0 := 1) (As := []) (rest := []) (N2 := 2) (fun u => [(x, .inr (7, [.int pe, .ref uh, .ref jh, .ref rh, .ref sa, .ref ra, .ref th, .ref lo, .ref tr])), (uh, .inr (0, [.ref ut, .ref uf, .ref ua, .ref ub, .int (nI 0)]))]) ⟨hx, hb, hml, hown, hts⟩ (c_Row_clear zl dC dI cI cL cS cR uh ut uf ua ub (nI un) ) (cwV 0 hts (us_gV uw_2_19 uw_2_20 uw_2_21 uw_1_3 k_Row_clear) rfl rfl rfl h_Row_clear ⟨by decide, by decide⟩) hK hP hD hS hA [1] [1] [0] rfl (by decide) (fun _ => rfl) [(x, .inr (7, [.int pe, .ref uh, .ref jh, .ref rh, .ref sa, .ref ra, .ref th, .ref lo, .ref tr]))] (fun _ => rfl) rfl (fun _ => rfl) (by decide) (by decide) rfl rfl rfl hl.1 rfl (Nat.le_of_ble_eq_true rfl) d_X_unstage_12 ⟨by decide, by decide⟩ (fun u H locs w12 hP hD hS => ?_)
  have hP : va_P (dC, dI) vwCl [(x, .inr (7, [.int pe, .ref uh, .ref jh, .ref rh, .ref sa, .ref ra, .ref th, .ref lo, .ref tr])), (uh, .inr (0, [.ref ut, .ref uf, .ref ua, .ref ub, .int (nI 0)]))] H := hP
  have hD : va_D zA [(x, .inr (7, [.int pe, .ref uh, .ref jh, .ref rh, .ref sa, .ref ra, .ref th, .ref lo, .ref tr])), (uh, .inr (0, [.ref ut, .ref uf, .ref ua, .ref ub, .int (nI 0)]))] := hD
  try dsimp only at w12
  refine W.eq (g2 := F0 zm 15 ls []) rfl ?_
  refine lv_iload_n hx hb d_X_unstage_15 rfl (lv_at hl 0 rfl) ?_
  exact us_iret hQ (by decide) (by decide) hx hb hr hlk hK hS () rfl (by simp) hP hD d_X_unstage_16

set_option maxHeartbeats 4000000 in
set_option maxRecDepth 100000 in
theorem c_X_total (zl : Launch) (dC : Nat → ClassId) (dI : Nat → Nat → Nat) (cI cL cS cR : ClassId) (x : Nat) (uh : Nat) (jh : Nat) (rh : Nat) (sa : Nat) (ra : Nat) (th : Nat) (lo : Nat) (tr : Nat) (pe : Int32) (vh : Nat) (vt : Nat) (vf : Nat) (va : Nat) (vb : Nat) (js : Nat) (jn : Nat) (jv : Nat) (n : Nat)  : us_Met (S := Unit) zl y_X_total w_X_total ({ frames := 0, cells := 0, slots := 0, locals := 0 }) (dC, dI) vwCl (us_ty cI cL cS cR) [.ref x] [(x, .inr (7, [.int pe, .ref uh, .ref jh, .ref rh, .ref sa, .ref ra, .ref th, .ref lo, .ref tr])), (jh, .inr (3, [.ref vh, .ref js, .ref jn, .ref jv])), (vh, .inr (0, [.ref vt, .ref vf, .ref va, .ref vb, .int (nI n)]))] (fun u => some (.int (nI n))) (fun u => True) (fun u => [(x, .inr (7, [.int pe, .ref uh, .ref jh, .ref rh, .ref sa, .ref ra, .ref th, .ref lo, .ref tr])), (jh, .inr (3, [.ref vh, .ref js, .ref jn, .ref jv])), (vh, .inr (0, [.ref vt, .ref vf, .ref va, .ref vb, .int (nI n)]))]) := by
  refine us_ofW (cc := b_X_total) (maxL := 1) (ret := (some .int)) (by decide) (Nat.le_of_ble_eq_true rfl) ?_
  intro zp ze zs zm args below meth zc zA ls zQ hQ hx hb hr hml hts hown hlk hin hl hK hP hD hS hA
  have hown : zs.vm.findClass "UpcastStreams" = some zm.cls := hown
  have hl : lv_has ls 1 [(0, .ref x)] := hl
  obtain ⟨H, hH⟩ : ∃ H, H = zs.heap := ⟨_, rfl⟩
  rw [← hH] at hP ⊢
  have hS : va_S zA zs.heap H [] := hH ▸ hS
  generalize ([] : List Loc) = locs at hS ⊢
  refine lv_aload_n hx hb d_X_total_0 rfl (lv_at hl 0 rfl) ?_
  refine va_get (D := (dC, dI)) (ci := 7) (v := .ref jh) (C := "UpcastStreams") (T := F_X) (N := 9) hx hb hts in_X hown hK hP 0 rfl rfl 2 (by decide) (hts _ uw_1_218) (fun _ h9 => h9) rfl d_X_total_1 ?_
  refine va_get (D := (dC, dI)) (ci := 3) (v := .ref vh) (C := "UpcastStreams$Log") (T := F_Log) (N := 4) hx hb hts in_Log hown hK hP 1 rfl rfl 0 (by decide) (hts _ uw_1_84) (fun _ h9 => h9) rfl d_X_total_4 ?_
  refine va_get (D := (dC, dI)) (ci := 0) (v := .int (nI n)) (C := "UpcastStreams$Row") (T := F_Row) (N := 5) hx hb hts in_Row hown hK hP 2 rfl rfl 4 (by decide) (hts _ uw_1_58) (fun _ h9 => h9) rfl d_X_total_7 ?_
  exact us_iret hQ (by decide) (by decide) hx hb hr hlk hK hS () rfl (by simp) hP hD d_X_total_10

set_option maxHeartbeats 4000000 in
set_option maxRecDepth 100000 in
theorem c_X_version (zl : Launch) (dC : Nat → ClassId) (dI : Nat → Nat → Nat) (cI cL cS cR : ClassId) (x : Nat) (uh : Nat) (jh : Nat) (rh : Nat) (sa : Nat) (ra : Nat) (th : Nat) (lo : Nat) (tr : Nat) (pe : Int32) (vh : Nat) (js : Nat) (jn : Nat) (jv : Nat) (j : Nat) (Z : Nat → Int32) (hj : j < 8) : us_Met (S := Unit) zl y_X_version w_X_version ({ frames := 1, cells := 0, slots := 0, locals := 20 }) (dC, dI) vwCl (us_ty cI cL cS cR) [.ref x, .int (nI j)] [(x, .inr (7, [.int pe, .ref uh, .ref jh, .ref rh, .ref sa, .ref ra, .ref th, .ref lo, .ref tr])), (jh, .inr (3, [.ref vh, .ref js, .ref jn, .ref jv])), (jv, .inl (cI, 8, .inl Z))] (fun u => some (.int (Z j))) (fun u => True) (fun u => [(x, .inr (7, [.int pe, .ref uh, .ref jh, .ref rh, .ref sa, .ref ra, .ref th, .ref lo, .ref tr])), (jh, .inr (3, [.ref vh, .ref js, .ref jn, .ref jv])), (jv, .inl (cI, 8, .inl Z))]) := by
  refine us_ofW (cc := b_X_version) (maxL := 2) (ret := (some .int)) (by decide) (Nat.le_of_ble_eq_true rfl) ?_
  intro zp ze zs zm args below meth zc zA ls zQ hQ hx hb hr hml hts hown hlk hin hl hK hP hD hS hA
  have hown : zs.vm.findClass "UpcastStreams" = some zm.cls := hown
  have hl : lv_has ls 2 [(0, .ref x), (1, .int (nI j))] := hl
  obtain ⟨H, hH⟩ : ∃ H, H = zs.heap := ⟨_, rfl⟩
  rw [← hH] at hP ⊢
  have hS : va_S zA zs.heap H [] := hH ▸ hS
  generalize ([] : List Loc) = locs at hS ⊢
  refine lv_iload_n hx hb d_X_version_0 rfl (lv_at hl 1 rfl) ?_
  refine us_callRS (As := [.int (nI j)]) (rest := []) ⟨hx, hb, hml, hown, hts⟩ (c_X_isStream zl dC dI cI cL cS cR (nI j) ) ⟨callB_of 1 hts (us_gC k_X_isStream) rfl rfl rfl (hts _ uw_1_1) (hts _ uw_2_27) h_X_isStream.2 ⟨by decide, by decide⟩, (hts _ uw_2_28)⟩ hK hP hS hA [] rfl rfl hl.1 rfl (Nat.le_of_ble_eq_true rfl) d_X_version_1 ⟨by decide, by decide⟩ (fun u H locs w1 hP hS => ?_)
  obtain ⟨r1, rfl⟩ : ∃ z, z = u := ⟨_, rfl⟩
  try dsimp only at w1
  refine W.eq (g2 := F0 zm 4 ls [.int r1]) rfl ?_
  refine lv_if_eq (tgt := 19) hx hb d_X_version_4 (by decide) (fun h => absurd ⟨nI_pos' (by omega), nI_lt (b := 8) hj (by omega)⟩ (us_d0 w1 h)) (fun c1 => ?_)
  refine lv_aload_n hx hb d_X_version_7 rfl (lv_at hl 0 rfl) ?_
  refine va_get (D := (dC, dI)) (ci := 7) (v := .ref jh) (C := "UpcastStreams") (T := F_X) (N := 9) hx hb hts in_X hown hK hP 0 rfl rfl 2 (by decide) (hts _ uw_1_218) (fun _ h9 => h9) rfl d_X_version_8 ?_
  refine va_get (D := (dC, dI)) (ci := 3) (v := .ref jv) (C := "UpcastStreams$Log") (T := F_Log) (N := 4) hx hb hts in_Log hown hK hP 1 rfl rfl 3 (by decide) (hts _ uw_1_90) (fun _ h9 => h9) rfl d_X_version_11 ?_
  refine lv_iload_n hx hb d_X_version_14 rfl (lv_at hl 1 rfl) ?_
  refine us_iald (j := j) hx hb hK hP 2 0 rfl rfl (vp_in_nI (by omega) (by omega)) (nI_clamp (by omega)) d_X_version_15 ?_
  refine lv_goto (tgt := 20) hx hb d_X_version_16 (by decide) ?_
  exact us_iret hQ (by decide) (by decide) hx hb hr hlk hK hS () rfl (by simp) hP hD d_X_version_20

set_option maxHeartbeats 4000000 in
set_option maxRecDepth 100000 in
theorem c_X_version_no (zl : Launch) (dC : Nat → ClassId) (dI : Nat → Nat → Nat) (cI cL cS cR : ClassId) (x : Nat) (uh : Nat) (jh : Nat) (rh : Nat) (sa : Nat) (ra : Nat) (th : Nat) (lo : Nat) (tr : Nat) (pe : Int32) (vh : Nat) (js : Nat) (jn : Nat) (jv : Nat) (Z : Nat → Int32) (y : Int32) (hy : ¬ (0 ≤ y ∧ y < 8)) : us_Met (S := Unit) zl y_X_version w_X_version ({ frames := 1, cells := 0, slots := 0, locals := 20 }) (dC, dI) vwCl (us_ty cI cL cS cR) [.ref x, .int y] [(x, .inr (7, [.int pe, .ref uh, .ref jh, .ref rh, .ref sa, .ref ra, .ref th, .ref lo, .ref tr])), (jh, .inr (3, [.ref vh, .ref js, .ref jn, .ref jv])), (jv, .inl (cI, 8, .inl Z))] (fun u => some (.int (-1 : Int32))) (fun u => True) (fun u => [(x, .inr (7, [.int pe, .ref uh, .ref jh, .ref rh, .ref sa, .ref ra, .ref th, .ref lo, .ref tr])), (jh, .inr (3, [.ref vh, .ref js, .ref jn, .ref jv])), (jv, .inl (cI, 8, .inl Z))]) := by
  refine us_ofW (cc := b_X_version) (maxL := 2) (ret := (some .int)) (by decide) (Nat.le_of_ble_eq_true rfl) ?_
  intro zp ze zs zm args below meth zc zA ls zQ hQ hx hb hr hml hts hown hlk hin hl hK hP hD hS hA
  have hown : zs.vm.findClass "UpcastStreams" = some zm.cls := hown
  have hl : lv_has ls 2 [(0, .ref x), (1, .int y)] := hl
  obtain ⟨H, hH⟩ : ∃ H, H = zs.heap := ⟨_, rfl⟩
  rw [← hH] at hP ⊢
  have hS : va_S zA zs.heap H [] := hH ▸ hS
  generalize ([] : List Loc) = locs at hS ⊢
  refine lv_iload_n hx hb d_X_version_0 rfl (lv_at hl 1 rfl) ?_
  refine us_callRS (As := [.int y]) (rest := []) ⟨hx, hb, hml, hown, hts⟩ (c_X_isStream zl dC dI cI cL cS cR y ) ⟨callB_of 1 hts (us_gC k_X_isStream) rfl rfl rfl (hts _ uw_1_1) (hts _ uw_2_27) h_X_isStream.2 ⟨by decide, by decide⟩, (hts _ uw_2_28)⟩ hK hP hS hA [] rfl rfl hl.1 rfl (Nat.le_of_ble_eq_true rfl) d_X_version_1 ⟨by decide, by decide⟩ (fun u H locs w1 hP hS => ?_)
  obtain ⟨r1, rfl⟩ : ∃ z, z = u := ⟨_, rfl⟩
  try dsimp only at w1
  refine W.eq (g2 := F0 zm 4 ls [.int r1]) rfl ?_
  refine lv_if_eq (tgt := 19) hx hb d_X_version_4 (by decide) (fun c1 => ?_) (fun h => absurd (us_d1 w1 h) hy)
  refine lv_iconst (v := (-1 : Int32)) hx hb d_X_version_19 (by decide) ?_
  exact us_iret hQ (by decide) (by decide) hx hb hr hlk hK hS () rfl (by simp) hP hD d_X_version_20

set_option maxHeartbeats 4000000 in
set_option maxRecDepth 100000 in
theorem c_X_stored (zl : Launch) (dC : Nat → ClassId) (dI : Nat → Nat → Nat) (cI cL cS cR : ClassId) (x : Nat) (uh : Nat) (jh : Nat) (rh : Nat) (sa : Nat) (ra : Nat) (th : Nat) (lo : Nat) (tr : Nat) (pe : Int32) (vh : Nat) (vt : Nat) (vf : Nat) (va : Nat) (vb : Nat) (n : Nat) (vT : Nat → Int32) (vF : Nat → Int32) (vU : Nat → Int32) (vV : Nat → Int32) (js : Nat) (jn : Nat) (jv : Nat) (S : Nat → Int32) (K : Nat → Int32) (Z : Nat → Int32) (i : Nat) (q : Nat) (hi : i < n) (hn : n ≤ 64) (hq : q < 6) : us_Met (S := Int32) zl y_X_stored w_X_stored ({ frames := 1, cells := 0, slots := 0, locals := 22 }) (dC, dI) vwCl (us_ty cI cL cS cR) [.ref x, .int (nI i), .int (nI q)] [(x, .inr (7, [.int pe, .ref uh, .ref jh, .ref rh, .ref sa, .ref ra, .ref th, .ref lo, .ref tr])), (jh, .inr (3, [.ref vh, .ref js, .ref jn, .ref jv])), (vh, .inr (0, [.ref vt, .ref vf, .ref va, .ref vb, .int (nI n)])), (vt, .inl (cI, 64, .inl vT)), (vf, .inl (cI, 64, .inl vF)), (va, .inl (cI, 64, .inl vU)), (vb, .inl (cI, 64, .inl vV)), (js, .inl (cI, 64, .inl S)), (jn, .inl (cI, 64, .inl K)), (jv, .inl (cI, 8, .inl Z))] (fun u => some (.int u)) (fun u => u = us_p6 q (S i) (K i) (vT i) (vF i) (vU i) (vV i)) (fun u => [(x, .inr (7, [.int pe, .ref uh, .ref jh, .ref rh, .ref sa, .ref ra, .ref th, .ref lo, .ref tr])), (jh, .inr (3, [.ref vh, .ref js, .ref jn, .ref jv])), (vh, .inr (0, [.ref vt, .ref vf, .ref va, .ref vb, .int (nI n)])), (vt, .inl (cI, 64, .inl vT)), (vf, .inl (cI, 64, .inl vF)), (va, .inl (cI, 64, .inl vU)), (vb, .inl (cI, 64, .inl vV)), (js, .inl (cI, 64, .inl S)), (jn, .inl (cI, 64, .inl K)), (jv, .inl (cI, 8, .inl Z))]) := by
  refine us_ofW (cc := b_X_stored) (maxL := 3) (ret := (some .int)) (by decide) (Nat.le_of_ble_eq_true rfl) ?_
  intro zp ze zs zm args below meth zc zA ls zQ hQ hx hb hr hml hts hown hlk hin hl hK hP hD hS hA
  have hown : zs.vm.findClass "UpcastStreams" = some zm.cls := hown
  have hl : lv_has ls 3 [(0, .ref x), (1, .int (nI i)), (2, .int (nI q))] := hl
  obtain ⟨H, hH⟩ : ∃ H, H = zs.heap := ⟨_, rfl⟩
  rw [← hH] at hP ⊢
  have hS : va_S zA zs.heap H [] := hH ▸ hS
  generalize ([] : List Loc) = locs at hS ⊢
  refine lv_aload_n hx hb d_X_stored_0 rfl (lv_at hl 0 rfl) ?_
  refine lv_iload_n hx hb d_X_stored_1 rfl (lv_at hl 1 rfl) ?_
  refine us_callRV (q0 := 0) (As := [.int (nI i)]) (rest := []) ⟨hx, hb, hml, hown, hts⟩ (c_X_isStored zl dC dI cI cL cS cR x uh jh rh sa ra th lo tr pe vh vt vf va vb js jn jv n (nI i) ) (cwV 1 hts (us_gV uw_3_12 uw_3_14 uw_p_9 uw_1_1 k_X_isStored) rfl rfl rfl h_X_isStored ⟨by decide, by decide⟩) hK hP hS hA [0, 1, 2] rfl rfl rfl rfl hl.1 rfl (Nat.le_of_ble_eq_true rfl) d_X_stored_2 ⟨by decide, by decide⟩ (fun u H locs w2 hP hS => ?_)
  obtain ⟨r2, rfl⟩ : ∃ z, z = u := ⟨_, rfl⟩
  try dsimp only at w2
  refine W.eq (g2 := F0 zm 5 ls [.int r2]) rfl ?_
  refine lv_if_eq (tgt := 18) hx hb d_X_stored_5 (by decide) (fun h => absurd ⟨nI_pos' (by omega), nI_lt hi (by omega)⟩ (us_d0 w2 h)) (fun c1 => ?_)
  refine lv_iload_n hx hb d_X_stored_8 rfl (lv_at hl 2 rfl) ?_
  refine lv_if_lt (tgt := 18) hx hb d_X_stored_9 (by decide) (fun h => absurd h (nI_pos (by omega))) (fun c2 => ?_)
  refine lv_iload_n hx hb d_X_stored_12 rfl (lv_at hl 2 rfl) ?_
  refine lv_bipush (v := (6 : Int32)) hx hb d_X_stored_13 (by decide) ?_
  refine lv_icmp_lt (tgt := 26) hx hb d_X_stored_15 (by decide) (fun c3 => ?_) (fun h => absurd (nI_lt (b := 6) hq (by omega)) h)
  refine lv_aload_n hx hb d_X_stored_26 rfl (lv_at hl 0 rfl) ?_
  refine va_get (D := (dC, dI)) (ci := 7) (v := .ref jh) (C := "UpcastStreams") (T := F_X) (N := 9) hx hb hts in_X hown hK hP 0 rfl rfl 2 (by decide) (hts _ uw_1_218) (fun _ h9 => h9) rfl d_X_stored_27 ?_
  refine lv_iload_n hx hb d_X_stored_30 rfl (lv_at hl 1 rfl) ?_
  refine lv_iload_n hx hb d_X_stored_31 rfl (lv_at hl 2 rfl) ?_
  refine us_cV (q0 := 1) (As := [.int (nI i), .int (nI q)]) (rest := []) (N2 := 10) (fun u => [(x, .inr (7, [.int pe, .ref uh, .ref jh, .ref rh, .ref sa, .ref ra, .ref th, .ref lo, .ref tr])), (jh, .inr (3, [.ref vh, .ref js, .ref jn, .ref jv])), (vh, .inr (0, [.ref vt, .ref vf, .ref va, .ref vb, .int (nI n)])), (vt, .inl (cI, 64, .inl vT)), (vf, .inl (cI, 64, .inl vF)), (va, .inl (cI, 64, .inl vU)), (vb, .inl (cI, 64, .inl vV)), (js, .inl (cI, 64, .inl S)), (jn, .inl (cI, 64, .inl K)), (jv, .inl (cI, 8, .inl Z))]) ⟨hx, hb, hml, hown, hts⟩ (c_Log_partOf zl dC dI cI cL cS cR jh js jn jv vh vt vf va vb n vT vF vU vV S K Z i q (by omega) hq) (cwV 2 hts (us_gV uw_3_31 uw_3_32 uw_3_33 uw_1_4 k_Log_partOf) rfl rfl rfl h_Log_partOf ⟨by decide, by decide⟩) hK hP hD hS hA [1, 2, 3, 4, 5, 6, 7, 8, 9] [1, 2, 3, 4, 5, 6, 7, 8, 9] [0] rfl (by decide) (fun _ => rfl) [(x, .inr (7, [.int pe, .ref uh, .ref jh, .ref rh, .ref sa, .ref ra, .ref th, .ref lo, .ref tr]))] (fun _ => rfl) rfl (fun _ => rfl) (by decide) (by decide) rfl rfl rfl hl.1 rfl (Nat.le_of_ble_eq_true rfl) d_X_stored_32 ⟨by decide, by decide⟩ (fun u H locs w32 hP hD hS => ?_)
  obtain ⟨r, rfl⟩ : ∃ z, z = u := ⟨_, rfl⟩
  have hP : va_P (dC, dI) vwCl [(x, .inr (7, [.int pe, .ref uh, .ref jh, .ref rh, .ref sa, .ref ra, .ref th, .ref lo, .ref tr])), (jh, .inr (3, [.ref vh, .ref js, .ref jn, .ref jv])), (vh, .inr (0, [.ref vt, .ref vf, .ref va, .ref vb, .int (nI n)])), (vt, .inl (cI, 64, .inl vT)), (vf, .inl (cI, 64, .inl vF)), (va, .inl (cI, 64, .inl vU)), (vb, .inl (cI, 64, .inl vV)), (js, .inl (cI, 64, .inl S)), (jn, .inl (cI, 64, .inl K)), (jv, .inl (cI, 8, .inl Z))] H := hP
  have hD : va_D zA [(x, .inr (7, [.int pe, .ref uh, .ref jh, .ref rh, .ref sa, .ref ra, .ref th, .ref lo, .ref tr])), (jh, .inr (3, [.ref vh, .ref js, .ref jn, .ref jv])), (vh, .inr (0, [.ref vt, .ref vf, .ref va, .ref vb, .int (nI n)])), (vt, .inl (cI, 64, .inl vT)), (vf, .inl (cI, 64, .inl vF)), (va, .inl (cI, 64, .inl vU)), (vb, .inl (cI, 64, .inl vV)), (js, .inl (cI, 64, .inl S)), (jn, .inl (cI, 64, .inl K)), (jv, .inl (cI, 8, .inl Z))] := hD
  try dsimp only at w32
  refine W.eq (g2 := F0 zm 35 ls [.int r]) rfl ?_
  exact us_iret hQ (by decide) (by decide) hx hb hr hlk hK hS r rfl (w32) hP hD d_X_stored_35

set_option maxHeartbeats 4000000 in
set_option maxRecDepth 100000 in
theorem c_X_field (zl : Launch) (dC : Nat → ClassId) (dI : Nat → Nat → Nat) (cI cL cS cR : ClassId) (x : Nat) (uh : Nat) (jh : Nat) (rh : Nat) (sa : Nat) (ra : Nat) (th : Nat) (lo : Nat) (tr : Nat) (pe : Int32) (w : Int32) (op : Bool) (fr : Bool) (li : Int64) (ba : Int64) (to : Int64) (mo : Int64) (od : Int64) (ch : Int64)  : us_Met (S := Int64) zl y_X_field w_X_field ({ frames := 1, cells := 0, slots := 0, locals := 21 }) (dC, dI) vwCl (us_ty cI cL cS cR) [.ref x, .int w] [(x, .inr (7, [.int pe, .ref uh, .ref jh, .ref rh, .ref sa, .ref ra, .ref th, .ref lo, .ref tr])), (lo, .inr (1, [.int (us_b op), .int (us_b fr), .long li, .long ba, .long to, .long mo, .long od, .long ch]))] (fun u => some (.long u)) (fun u => u = us_fld (op, fr, li, ba, to, mo, od, ch) w) (fun u => [(x, .inr (7, [.int pe, .ref uh, .ref jh, .ref rh, .ref sa, .ref ra, .ref th, .ref lo, .ref tr])), (lo, .inr (1, [.int (us_b op), .int (us_b fr), .long li, .long ba, .long to, .long mo, .long od, .long ch]))]) := by
  refine us_ofW (cc := b_X_field) (maxL := 2) (ret := (some .long)) (by decide) (Nat.le_of_ble_eq_true rfl) ?_
  intro zp ze zs zm args below meth zc zA ls zQ hQ hx hb hr hml hts hown hlk hin hl hK hP hD hS hA
  have hown : zs.vm.findClass "UpcastStreams" = some zm.cls := hown
  have hl : lv_has ls 2 [(0, .ref x), (1, .int w)] := hl
  obtain ⟨H, hH⟩ : ∃ H, H = zs.heap := ⟨_, rfl⟩
  rw [← hH] at hP ⊢
  have hS : va_S zA zs.heap H [] := hH ▸ hS
  generalize ([] : List Loc) = locs at hS ⊢
  refine lv_aload_n hx hb d_X_field_0 rfl (lv_at hl 0 rfl) ?_
  refine va_get (D := (dC, dI)) (ci := 7) (v := .ref lo) (C := "UpcastStreams") (T := F_X) (N := 9) hx hb hts in_X hown hK hP 0 rfl rfl 7 (by decide) (hts _ uw_1_223) (fun _ h9 => h9) rfl d_X_field_1 ?_
  refine lv_iload_n hx hb d_X_field_4 rfl (lv_at hl 1 rfl) ?_
  refine us_cV (q0 := 1) (As := [.int w]) (rest := []) (N2 := 2) (fun u => [(x, .inr (7, [.int pe, .ref uh, .ref jh, .ref rh, .ref sa, .ref ra, .ref th, .ref lo, .ref tr])), (lo, .inr (1, [.int (us_b op), .int (us_b fr), .long li, .long ba, .long to, .long mo, .long od, .long ch]))]) ⟨hx, hb, hml, hown, hts⟩ (c_State_partOf zl dC dI cI cL cS cR lo w op fr li ba to mo od ch ) (cwV 1 hts (us_gV uw_2_38 uw_2_39 uw_2_40 uw_1_7 k_State_partOf) rfl rfl rfl h_State_partOf ⟨by decide, by decide⟩) hK hP hD hS hA [1] [1] [0] rfl (by decide) (fun _ => rfl) [(x, .inr (7, [.int pe, .ref uh, .ref jh, .ref rh, .ref sa, .ref ra, .ref th, .ref lo, .ref tr]))] (fun _ => rfl) rfl (fun _ => rfl) (by decide) (by decide) rfl rfl rfl hl.1 rfl (Nat.le_of_ble_eq_true rfl) d_X_field_5 ⟨by decide, by decide⟩ (fun u H locs w5 hP hD hS => ?_)
  obtain ⟨r, rfl⟩ : ∃ z, z = u := ⟨_, rfl⟩
  have hP : va_P (dC, dI) vwCl [(x, .inr (7, [.int pe, .ref uh, .ref jh, .ref rh, .ref sa, .ref ra, .ref th, .ref lo, .ref tr])), (lo, .inr (1, [.int (us_b op), .int (us_b fr), .long li, .long ba, .long to, .long mo, .long od, .long ch]))] H := hP
  have hD : va_D zA [(x, .inr (7, [.int pe, .ref uh, .ref jh, .ref rh, .ref sa, .ref ra, .ref th, .ref lo, .ref tr])), (lo, .inr (1, [.int (us_b op), .int (us_b fr), .long li, .long ba, .long to, .long mo, .long od, .long ch]))] := hD
  try dsimp only at w5
  refine W.eq (g2 := F0 zm 8 ls [.long r]) rfl ?_
  exact us_lret hQ (by decide) (by decide) hx hb hr hlk hK hS r rfl (w5) hP hD d_X_field_8

set_option maxHeartbeats 4000000 in
set_option maxRecDepth 100000 in
theorem c_X_snapshot (zl : Launch) (dC : Nat → ClassId) (dI : Nat → Nat → Nat) (cI cL cS cR : ClassId) (x : Nat) (uh : Nat) (jh : Nat) (rh : Nat) (sa : Nat) (ra : Nat) (th : Nat) (lo : Nat) (tr : Nat) (pe : Int32) (sh : Nat → Nat) (sl : Nat → Nat) (se : Nat → Nat) (lv : Nat → Int32) (ev : Nat → Int32) (j : Nat) (k : Int32) (hj : j < 8) : us_Met (S := Int32) zl y_X_snapshot w_X_snapshot ({ frames := 1, cells := 0, slots := 0, locals := 21 }) (dC, dI) vwCl (us_ty cI cL cS cR) [.ref x, .int (nI j), .int k] [(x, .inr (7, [.int pe, .ref uh, .ref jh, .ref rh, .ref sa, .ref ra, .ref th, .ref lo, .ref tr])), (sa, .inl (cS, 8, .inr (.inr (.inr (.inr (fun i => some (sh i))))))), (sh 0, .inr (6, [.ref (sl 0), .ref (se 0), .int (lv 0), .int (ev 0)])), (sh 1, .inr (6, [.ref (sl 1), .ref (se 1), .int (lv 1), .int (ev 1)])), (sh 2, .inr (6, [.ref (sl 2), .ref (se 2), .int (lv 2), .int (ev 2)])), (sh 3, .inr (6, [.ref (sl 3), .ref (se 3), .int (lv 3), .int (ev 3)])), (sh 4, .inr (6, [.ref (sl 4), .ref (se 4), .int (lv 4), .int (ev 4)])), (sh 5, .inr (6, [.ref (sl 5), .ref (se 5), .int (lv 5), .int (ev 5)])), (sh 6, .inr (6, [.ref (sl 6), .ref (se 6), .int (lv 6), .int (ev 6)])), (sh 7, .inr (6, [.ref (sl 7), .ref (se 7), .int (lv 7), .int (ev 7)]))] (fun u => some (.int u)) (fun u => u = if k = 0 then lv j else if k = 1 then ev j else -1) (fun u => [(x, .inr (7, [.int pe, .ref uh, .ref jh, .ref rh, .ref sa, .ref ra, .ref th, .ref lo, .ref tr])), (sa, .inl (cS, 8, .inr (.inr (.inr (.inr (fun i => some (sh i))))))), (sh 0, .inr (6, [.ref (sl 0), .ref (se 0), .int (lv 0), .int (ev 0)])), (sh 1, .inr (6, [.ref (sl 1), .ref (se 1), .int (lv 1), .int (ev 1)])), (sh 2, .inr (6, [.ref (sl 2), .ref (se 2), .int (lv 2), .int (ev 2)])), (sh 3, .inr (6, [.ref (sl 3), .ref (se 3), .int (lv 3), .int (ev 3)])), (sh 4, .inr (6, [.ref (sl 4), .ref (se 4), .int (lv 4), .int (ev 4)])), (sh 5, .inr (6, [.ref (sl 5), .ref (se 5), .int (lv 5), .int (ev 5)])), (sh 6, .inr (6, [.ref (sl 6), .ref (se 6), .int (lv 6), .int (ev 6)])), (sh 7, .inr (6, [.ref (sl 7), .ref (se 7), .int (lv 7), .int (ev 7)]))]) := by
  refine us_ofW (cc := b_X_snapshot) (maxL := 3) (ret := (some .int)) (by decide) (Nat.le_of_ble_eq_true rfl) ?_
  intro zp ze zs zm args below meth zc zA ls zQ hQ hx hb hr hml hts hown hlk hin hl hK hP hD hS hA
  have hown : zs.vm.findClass "UpcastStreams" = some zm.cls := hown
  have hl : lv_has ls 3 [(0, .ref x), (1, .int (nI j)), (2, .int k)] := hl
  obtain ⟨H, hH⟩ : ∃ H, H = zs.heap := ⟨_, rfl⟩
  rw [← hH] at hP ⊢
  have hS : va_S zA zs.heap H [] := hH ▸ hS
  generalize ([] : List Loc) = locs at hS ⊢
  refine lv_iload_n hx hb d_X_snapshot_0 rfl (lv_at hl 1 rfl) ?_
  refine us_callRS (As := [.int (nI j)]) (rest := []) ⟨hx, hb, hml, hown, hts⟩ (c_X_isStream zl dC dI cI cL cS cR (nI j) ) ⟨callB_of 1 hts (us_gC k_X_isStream) rfl rfl rfl (hts _ uw_1_1) (hts _ uw_2_27) h_X_isStream.2 ⟨by decide, by decide⟩, (hts _ uw_2_28)⟩ hK hP hS hA [] rfl rfl hl.1 rfl (Nat.le_of_ble_eq_true rfl) d_X_snapshot_1 ⟨by decide, by decide⟩ (fun u H locs w1 hP hS => ?_)
  obtain ⟨r1, rfl⟩ : ∃ z, z = u := ⟨_, rfl⟩
  try dsimp only at w1
  refine W.eq (g2 := F0 zm 4 ls [.int r1]) rfl ?_
  refine lv_if_eq (tgt := 20) hx hb d_X_snapshot_4 (by decide) (fun h => absurd ⟨nI_pos' (by omega), nI_lt (b := 8) hj (by omega)⟩ (us_d0 w1 h)) (fun c1 => ?_)
  rcases (show j = 0 ∨ j = 1 ∨ j = 2 ∨ j = 3 ∨ j = 4 ∨ j = 5 ∨ j = 6 ∨ j = 7 by omega) with rfl | rfl | rfl | rfl | rfl | rfl | rfl | rfl
  · refine lv_aload_n hx hb d_X_snapshot_7 rfl (lv_at hl 0 rfl) ?_
    refine va_get (D := (dC, dI)) (ci := 7) (v := .ref sa) (C := "UpcastStreams") (T := F_X) (N := 9) hx hb hts in_X hown hK hP 0 rfl rfl 4 (by decide) (hts _ uw_1_220) (fun _ h9 => h9) rfl d_X_snapshot_8 ?_
    refine lv_iload_n hx hb d_X_snapshot_11 rfl (lv_at hl 1 rfl) ?_
    refine us_aldq (j := 0) (r := sh 0) hx hb hK hP 1 2 rfl rfl (by unfold vp_in; decide) (by decide) rfl d_X_snapshot_12 ?_
    refine lv_iload_n hx hb d_X_snapshot_13 rfl (lv_at hl 2 rfl) ?_
    refine us_cV (q0 := 2) (As := [.int k]) (rest := []) (N2 := 10) (fun u => [(x, .inr (7, [.int pe, .ref uh, .ref jh, .ref rh, .ref sa, .ref ra, .ref th, .ref lo, .ref tr])), (sa, .inl (cS, 8, .inr (.inr (.inr (.inr (fun i => some (sh i))))))), (sh 0, .inr (6, [.ref (sl 0), .ref (se 0), .int (lv 0), .int (ev 0)])), (sh 1, .inr (6, [.ref (sl 1), .ref (se 1), .int (lv 1), .int (ev 1)])), (sh 2, .inr (6, [.ref (sl 2), .ref (se 2), .int (lv 2), .int (ev 2)])), (sh 3, .inr (6, [.ref (sl 3), .ref (se 3), .int (lv 3), .int (ev 3)])), (sh 4, .inr (6, [.ref (sl 4), .ref (se 4), .int (lv 4), .int (ev 4)])), (sh 5, .inr (6, [.ref (sl 5), .ref (se 5), .int (lv 5), .int (ev 5)])), (sh 6, .inr (6, [.ref (sl 6), .ref (se 6), .int (lv 6), .int (ev 6)])), (sh 7, .inr (6, [.ref (sl 7), .ref (se 7), .int (lv 7), .int (ev 7)]))]) ⟨hx, hb, hml, hown, hts⟩ (c_Shelf_versionOf zl dC dI cI cL cS cR (sh 0) (sl 0) (se 0) (lv 0) (ev 0) k ) (cwV 1 hts (us_gV uw_2_47 uw_2_48 uw_2_49 uw_1_6 k_Shelf_versionOf) rfl rfl rfl h_Shelf_versionOf ⟨by decide, by decide⟩) hK hP hD hS hA [2] [2] [0, 1, 3, 4, 5, 6, 7, 8, 9] rfl (by decide) (fun _ => rfl) [(x, .inr (7, [.int pe, .ref uh, .ref jh, .ref rh, .ref sa, .ref ra, .ref th, .ref lo, .ref tr])), (sa, .inl (cS, 8, .inr (.inr (.inr (.inr (fun i => some (sh i))))))), (sh 1, .inr (6, [.ref (sl 1), .ref (se 1), .int (lv 1), .int (ev 1)])), (sh 2, .inr (6, [.ref (sl 2), .ref (se 2), .int (lv 2), .int (ev 2)])), (sh 3, .inr (6, [.ref (sl 3), .ref (se 3), .int (lv 3), .int (ev 3)])), (sh 4, .inr (6, [.ref (sl 4), .ref (se 4), .int (lv 4), .int (ev 4)])), (sh 5, .inr (6, [.ref (sl 5), .ref (se 5), .int (lv 5), .int (ev 5)])), (sh 6, .inr (6, [.ref (sl 6), .ref (se 6), .int (lv 6), .int (ev 6)])), (sh 7, .inr (6, [.ref (sl 7), .ref (se 7), .int (lv 7), .int (ev 7)]))] (fun _ => rfl) rfl (fun _ => rfl) (by decide) (by decide) rfl rfl rfl hl.1 rfl (Nat.le_of_ble_eq_true rfl) d_X_snapshot_14 ⟨by decide, by decide⟩ (fun u H locs w14 hP hD hS => ?_)
    obtain ⟨r, rfl⟩ : ∃ z, z = u := ⟨_, rfl⟩
    have hP : va_P (dC, dI) vwCl [(x, .inr (7, [.int pe, .ref uh, .ref jh, .ref rh, .ref sa, .ref ra, .ref th, .ref lo, .ref tr])), (sa, .inl (cS, 8, .inr (.inr (.inr (.inr (fun i => some (sh i))))))), (sh 0, .inr (6, [.ref (sl 0), .ref (se 0), .int (lv 0), .int (ev 0)])), (sh 1, .inr (6, [.ref (sl 1), .ref (se 1), .int (lv 1), .int (ev 1)])), (sh 2, .inr (6, [.ref (sl 2), .ref (se 2), .int (lv 2), .int (ev 2)])), (sh 3, .inr (6, [.ref (sl 3), .ref (se 3), .int (lv 3), .int (ev 3)])), (sh 4, .inr (6, [.ref (sl 4), .ref (se 4), .int (lv 4), .int (ev 4)])), (sh 5, .inr (6, [.ref (sl 5), .ref (se 5), .int (lv 5), .int (ev 5)])), (sh 6, .inr (6, [.ref (sl 6), .ref (se 6), .int (lv 6), .int (ev 6)])), (sh 7, .inr (6, [.ref (sl 7), .ref (se 7), .int (lv 7), .int (ev 7)]))] H := hP
    have hD : va_D zA [(x, .inr (7, [.int pe, .ref uh, .ref jh, .ref rh, .ref sa, .ref ra, .ref th, .ref lo, .ref tr])), (sa, .inl (cS, 8, .inr (.inr (.inr (.inr (fun i => some (sh i))))))), (sh 0, .inr (6, [.ref (sl 0), .ref (se 0), .int (lv 0), .int (ev 0)])), (sh 1, .inr (6, [.ref (sl 1), .ref (se 1), .int (lv 1), .int (ev 1)])), (sh 2, .inr (6, [.ref (sl 2), .ref (se 2), .int (lv 2), .int (ev 2)])), (sh 3, .inr (6, [.ref (sl 3), .ref (se 3), .int (lv 3), .int (ev 3)])), (sh 4, .inr (6, [.ref (sl 4), .ref (se 4), .int (lv 4), .int (ev 4)])), (sh 5, .inr (6, [.ref (sl 5), .ref (se 5), .int (lv 5), .int (ev 5)])), (sh 6, .inr (6, [.ref (sl 6), .ref (se 6), .int (lv 6), .int (ev 6)])), (sh 7, .inr (6, [.ref (sl 7), .ref (se 7), .int (lv 7), .int (ev 7)]))] := hD
    try dsimp only at w14
    refine W.eq (g2 := F0 zm 17 ls [.int r]) rfl ?_
    refine lv_goto (tgt := 21) hx hb d_X_snapshot_17 (by decide) ?_
    exact us_iret hQ (by decide) (by decide) hx hb hr hlk hK hS r rfl (w14) hP hD d_X_snapshot_21
  · refine lv_aload_n hx hb d_X_snapshot_7 rfl (lv_at hl 0 rfl) ?_
    refine va_get (D := (dC, dI)) (ci := 7) (v := .ref sa) (C := "UpcastStreams") (T := F_X) (N := 9) hx hb hts in_X hown hK hP 0 rfl rfl 4 (by decide) (hts _ uw_1_220) (fun _ h9 => h9) rfl d_X_snapshot_8 ?_
    refine lv_iload_n hx hb d_X_snapshot_11 rfl (lv_at hl 1 rfl) ?_
    refine us_aldq (j := 1) (r := sh 1) hx hb hK hP 1 2 rfl rfl (by unfold vp_in; decide) (by decide) rfl d_X_snapshot_12 ?_
    refine lv_iload_n hx hb d_X_snapshot_13 rfl (lv_at hl 2 rfl) ?_
    refine us_cV (q0 := 3) (As := [.int k]) (rest := []) (N2 := 10) (fun u => [(x, .inr (7, [.int pe, .ref uh, .ref jh, .ref rh, .ref sa, .ref ra, .ref th, .ref lo, .ref tr])), (sa, .inl (cS, 8, .inr (.inr (.inr (.inr (fun i => some (sh i))))))), (sh 0, .inr (6, [.ref (sl 0), .ref (se 0), .int (lv 0), .int (ev 0)])), (sh 1, .inr (6, [.ref (sl 1), .ref (se 1), .int (lv 1), .int (ev 1)])), (sh 2, .inr (6, [.ref (sl 2), .ref (se 2), .int (lv 2), .int (ev 2)])), (sh 3, .inr (6, [.ref (sl 3), .ref (se 3), .int (lv 3), .int (ev 3)])), (sh 4, .inr (6, [.ref (sl 4), .ref (se 4), .int (lv 4), .int (ev 4)])), (sh 5, .inr (6, [.ref (sl 5), .ref (se 5), .int (lv 5), .int (ev 5)])), (sh 6, .inr (6, [.ref (sl 6), .ref (se 6), .int (lv 6), .int (ev 6)])), (sh 7, .inr (6, [.ref (sl 7), .ref (se 7), .int (lv 7), .int (ev 7)]))]) ⟨hx, hb, hml, hown, hts⟩ (c_Shelf_versionOf zl dC dI cI cL cS cR (sh 1) (sl 1) (se 1) (lv 1) (ev 1) k ) (cwV 1 hts (us_gV uw_2_47 uw_2_48 uw_2_49 uw_1_6 k_Shelf_versionOf) rfl rfl rfl h_Shelf_versionOf ⟨by decide, by decide⟩) hK hP hD hS hA [3] [3] [0, 1, 2, 4, 5, 6, 7, 8, 9] rfl (by decide) (fun _ => rfl) [(x, .inr (7, [.int pe, .ref uh, .ref jh, .ref rh, .ref sa, .ref ra, .ref th, .ref lo, .ref tr])), (sa, .inl (cS, 8, .inr (.inr (.inr (.inr (fun i => some (sh i))))))), (sh 0, .inr (6, [.ref (sl 0), .ref (se 0), .int (lv 0), .int (ev 0)])), (sh 2, .inr (6, [.ref (sl 2), .ref (se 2), .int (lv 2), .int (ev 2)])), (sh 3, .inr (6, [.ref (sl 3), .ref (se 3), .int (lv 3), .int (ev 3)])), (sh 4, .inr (6, [.ref (sl 4), .ref (se 4), .int (lv 4), .int (ev 4)])), (sh 5, .inr (6, [.ref (sl 5), .ref (se 5), .int (lv 5), .int (ev 5)])), (sh 6, .inr (6, [.ref (sl 6), .ref (se 6), .int (lv 6), .int (ev 6)])), (sh 7, .inr (6, [.ref (sl 7), .ref (se 7), .int (lv 7), .int (ev 7)]))] (fun _ => rfl) rfl (fun _ => rfl) (by decide) (by decide) rfl rfl rfl hl.1 rfl (Nat.le_of_ble_eq_true rfl) d_X_snapshot_14 ⟨by decide, by decide⟩ (fun u H locs w14 hP hD hS => ?_)
    obtain ⟨r, rfl⟩ : ∃ z, z = u := ⟨_, rfl⟩
    have hP : va_P (dC, dI) vwCl [(x, .inr (7, [.int pe, .ref uh, .ref jh, .ref rh, .ref sa, .ref ra, .ref th, .ref lo, .ref tr])), (sa, .inl (cS, 8, .inr (.inr (.inr (.inr (fun i => some (sh i))))))), (sh 0, .inr (6, [.ref (sl 0), .ref (se 0), .int (lv 0), .int (ev 0)])), (sh 1, .inr (6, [.ref (sl 1), .ref (se 1), .int (lv 1), .int (ev 1)])), (sh 2, .inr (6, [.ref (sl 2), .ref (se 2), .int (lv 2), .int (ev 2)])), (sh 3, .inr (6, [.ref (sl 3), .ref (se 3), .int (lv 3), .int (ev 3)])), (sh 4, .inr (6, [.ref (sl 4), .ref (se 4), .int (lv 4), .int (ev 4)])), (sh 5, .inr (6, [.ref (sl 5), .ref (se 5), .int (lv 5), .int (ev 5)])), (sh 6, .inr (6, [.ref (sl 6), .ref (se 6), .int (lv 6), .int (ev 6)])), (sh 7, .inr (6, [.ref (sl 7), .ref (se 7), .int (lv 7), .int (ev 7)]))] H := hP
    have hD : va_D zA [(x, .inr (7, [.int pe, .ref uh, .ref jh, .ref rh, .ref sa, .ref ra, .ref th, .ref lo, .ref tr])), (sa, .inl (cS, 8, .inr (.inr (.inr (.inr (fun i => some (sh i))))))), (sh 0, .inr (6, [.ref (sl 0), .ref (se 0), .int (lv 0), .int (ev 0)])), (sh 1, .inr (6, [.ref (sl 1), .ref (se 1), .int (lv 1), .int (ev 1)])), (sh 2, .inr (6, [.ref (sl 2), .ref (se 2), .int (lv 2), .int (ev 2)])), (sh 3, .inr (6, [.ref (sl 3), .ref (se 3), .int (lv 3), .int (ev 3)])), (sh 4, .inr (6, [.ref (sl 4), .ref (se 4), .int (lv 4), .int (ev 4)])), (sh 5, .inr (6, [.ref (sl 5), .ref (se 5), .int (lv 5), .int (ev 5)])), (sh 6, .inr (6, [.ref (sl 6), .ref (se 6), .int (lv 6), .int (ev 6)])), (sh 7, .inr (6, [.ref (sl 7), .ref (se 7), .int (lv 7), .int (ev 7)]))] := hD
    try dsimp only at w14
    refine W.eq (g2 := F0 zm 17 ls [.int r]) rfl ?_
    refine lv_goto (tgt := 21) hx hb d_X_snapshot_17 (by decide) ?_
    exact us_iret hQ (by decide) (by decide) hx hb hr hlk hK hS r rfl (w14) hP hD d_X_snapshot_21
  · refine lv_aload_n hx hb d_X_snapshot_7 rfl (lv_at hl 0 rfl) ?_
    refine va_get (D := (dC, dI)) (ci := 7) (v := .ref sa) (C := "UpcastStreams") (T := F_X) (N := 9) hx hb hts in_X hown hK hP 0 rfl rfl 4 (by decide) (hts _ uw_1_220) (fun _ h9 => h9) rfl d_X_snapshot_8 ?_
    refine lv_iload_n hx hb d_X_snapshot_11 rfl (lv_at hl 1 rfl) ?_
    refine us_aldq (j := 2) (r := sh 2) hx hb hK hP 1 2 rfl rfl (by unfold vp_in; decide) (by decide) rfl d_X_snapshot_12 ?_
    refine lv_iload_n hx hb d_X_snapshot_13 rfl (lv_at hl 2 rfl) ?_
    refine us_cV (q0 := 4) (As := [.int k]) (rest := []) (N2 := 10) (fun u => [(x, .inr (7, [.int pe, .ref uh, .ref jh, .ref rh, .ref sa, .ref ra, .ref th, .ref lo, .ref tr])), (sa, .inl (cS, 8, .inr (.inr (.inr (.inr (fun i => some (sh i))))))), (sh 0, .inr (6, [.ref (sl 0), .ref (se 0), .int (lv 0), .int (ev 0)])), (sh 1, .inr (6, [.ref (sl 1), .ref (se 1), .int (lv 1), .int (ev 1)])), (sh 2, .inr (6, [.ref (sl 2), .ref (se 2), .int (lv 2), .int (ev 2)])), (sh 3, .inr (6, [.ref (sl 3), .ref (se 3), .int (lv 3), .int (ev 3)])), (sh 4, .inr (6, [.ref (sl 4), .ref (se 4), .int (lv 4), .int (ev 4)])), (sh 5, .inr (6, [.ref (sl 5), .ref (se 5), .int (lv 5), .int (ev 5)])), (sh 6, .inr (6, [.ref (sl 6), .ref (se 6), .int (lv 6), .int (ev 6)])), (sh 7, .inr (6, [.ref (sl 7), .ref (se 7), .int (lv 7), .int (ev 7)]))]) ⟨hx, hb, hml, hown, hts⟩ (c_Shelf_versionOf zl dC dI cI cL cS cR (sh 2) (sl 2) (se 2) (lv 2) (ev 2) k ) (cwV 1 hts (us_gV uw_2_47 uw_2_48 uw_2_49 uw_1_6 k_Shelf_versionOf) rfl rfl rfl h_Shelf_versionOf ⟨by decide, by decide⟩) hK hP hD hS hA [4] [4] [0, 1, 2, 3, 5, 6, 7, 8, 9] rfl (by decide) (fun _ => rfl) [(x, .inr (7, [.int pe, .ref uh, .ref jh, .ref rh, .ref sa, .ref ra, .ref th, .ref lo, .ref tr])), (sa, .inl (cS, 8, .inr (.inr (.inr (.inr (fun i => some (sh i))))))), (sh 0, .inr (6, [.ref (sl 0), .ref (se 0), .int (lv 0), .int (ev 0)])), (sh 1, .inr (6, [.ref (sl 1), .ref (se 1), .int (lv 1), .int (ev 1)])), (sh 3, .inr (6, [.ref (sl 3), .ref (se 3), .int (lv 3), .int (ev 3)])), (sh 4, .inr (6, [.ref (sl 4), .ref (se 4), .int (lv 4), .int (ev 4)])), (sh 5, .inr (6, [.ref (sl 5), .ref (se 5), .int (lv 5), .int (ev 5)])), (sh 6, .inr (6, [.ref (sl 6), .ref (se 6), .int (lv 6), .int (ev 6)])), (sh 7, .inr (6, [.ref (sl 7), .ref (se 7), .int (lv 7), .int (ev 7)]))] (fun _ => rfl) rfl (fun _ => rfl) (by decide) (by decide) rfl rfl rfl hl.1 rfl (Nat.le_of_ble_eq_true rfl) d_X_snapshot_14 ⟨by decide, by decide⟩ (fun u H locs w14 hP hD hS => ?_)
    obtain ⟨r, rfl⟩ : ∃ z, z = u := ⟨_, rfl⟩
    have hP : va_P (dC, dI) vwCl [(x, .inr (7, [.int pe, .ref uh, .ref jh, .ref rh, .ref sa, .ref ra, .ref th, .ref lo, .ref tr])), (sa, .inl (cS, 8, .inr (.inr (.inr (.inr (fun i => some (sh i))))))), (sh 0, .inr (6, [.ref (sl 0), .ref (se 0), .int (lv 0), .int (ev 0)])), (sh 1, .inr (6, [.ref (sl 1), .ref (se 1), .int (lv 1), .int (ev 1)])), (sh 2, .inr (6, [.ref (sl 2), .ref (se 2), .int (lv 2), .int (ev 2)])), (sh 3, .inr (6, [.ref (sl 3), .ref (se 3), .int (lv 3), .int (ev 3)])), (sh 4, .inr (6, [.ref (sl 4), .ref (se 4), .int (lv 4), .int (ev 4)])), (sh 5, .inr (6, [.ref (sl 5), .ref (se 5), .int (lv 5), .int (ev 5)])), (sh 6, .inr (6, [.ref (sl 6), .ref (se 6), .int (lv 6), .int (ev 6)])), (sh 7, .inr (6, [.ref (sl 7), .ref (se 7), .int (lv 7), .int (ev 7)]))] H := hP
    have hD : va_D zA [(x, .inr (7, [.int pe, .ref uh, .ref jh, .ref rh, .ref sa, .ref ra, .ref th, .ref lo, .ref tr])), (sa, .inl (cS, 8, .inr (.inr (.inr (.inr (fun i => some (sh i))))))), (sh 0, .inr (6, [.ref (sl 0), .ref (se 0), .int (lv 0), .int (ev 0)])), (sh 1, .inr (6, [.ref (sl 1), .ref (se 1), .int (lv 1), .int (ev 1)])), (sh 2, .inr (6, [.ref (sl 2), .ref (se 2), .int (lv 2), .int (ev 2)])), (sh 3, .inr (6, [.ref (sl 3), .ref (se 3), .int (lv 3), .int (ev 3)])), (sh 4, .inr (6, [.ref (sl 4), .ref (se 4), .int (lv 4), .int (ev 4)])), (sh 5, .inr (6, [.ref (sl 5), .ref (se 5), .int (lv 5), .int (ev 5)])), (sh 6, .inr (6, [.ref (sl 6), .ref (se 6), .int (lv 6), .int (ev 6)])), (sh 7, .inr (6, [.ref (sl 7), .ref (se 7), .int (lv 7), .int (ev 7)]))] := hD
    try dsimp only at w14
    refine W.eq (g2 := F0 zm 17 ls [.int r]) rfl ?_
    refine lv_goto (tgt := 21) hx hb d_X_snapshot_17 (by decide) ?_
    exact us_iret hQ (by decide) (by decide) hx hb hr hlk hK hS r rfl (w14) hP hD d_X_snapshot_21
  · refine lv_aload_n hx hb d_X_snapshot_7 rfl (lv_at hl 0 rfl) ?_
    refine va_get (D := (dC, dI)) (ci := 7) (v := .ref sa) (C := "UpcastStreams") (T := F_X) (N := 9) hx hb hts in_X hown hK hP 0 rfl rfl 4 (by decide) (hts _ uw_1_220) (fun _ h9 => h9) rfl d_X_snapshot_8 ?_
    refine lv_iload_n hx hb d_X_snapshot_11 rfl (lv_at hl 1 rfl) ?_
    refine us_aldq (j := 3) (r := sh 3) hx hb hK hP 1 2 rfl rfl (by unfold vp_in; decide) (by decide) rfl d_X_snapshot_12 ?_
    refine lv_iload_n hx hb d_X_snapshot_13 rfl (lv_at hl 2 rfl) ?_
    refine us_cV (q0 := 5) (As := [.int k]) (rest := []) (N2 := 10) (fun u => [(x, .inr (7, [.int pe, .ref uh, .ref jh, .ref rh, .ref sa, .ref ra, .ref th, .ref lo, .ref tr])), (sa, .inl (cS, 8, .inr (.inr (.inr (.inr (fun i => some (sh i))))))), (sh 0, .inr (6, [.ref (sl 0), .ref (se 0), .int (lv 0), .int (ev 0)])), (sh 1, .inr (6, [.ref (sl 1), .ref (se 1), .int (lv 1), .int (ev 1)])), (sh 2, .inr (6, [.ref (sl 2), .ref (se 2), .int (lv 2), .int (ev 2)])), (sh 3, .inr (6, [.ref (sl 3), .ref (se 3), .int (lv 3), .int (ev 3)])), (sh 4, .inr (6, [.ref (sl 4), .ref (se 4), .int (lv 4), .int (ev 4)])), (sh 5, .inr (6, [.ref (sl 5), .ref (se 5), .int (lv 5), .int (ev 5)])), (sh 6, .inr (6, [.ref (sl 6), .ref (se 6), .int (lv 6), .int (ev 6)])), (sh 7, .inr (6, [.ref (sl 7), .ref (se 7), .int (lv 7), .int (ev 7)]))]) ⟨hx, hb, hml, hown, hts⟩ (c_Shelf_versionOf zl dC dI cI cL cS cR (sh 3) (sl 3) (se 3) (lv 3) (ev 3) k ) (cwV 1 hts (us_gV uw_2_47 uw_2_48 uw_2_49 uw_1_6 k_Shelf_versionOf) rfl rfl rfl h_Shelf_versionOf ⟨by decide, by decide⟩) hK hP hD hS hA [5] [5] [0, 1, 2, 3, 4, 6, 7, 8, 9] rfl (by decide) (fun _ => rfl) [(x, .inr (7, [.int pe, .ref uh, .ref jh, .ref rh, .ref sa, .ref ra, .ref th, .ref lo, .ref tr])), (sa, .inl (cS, 8, .inr (.inr (.inr (.inr (fun i => some (sh i))))))), (sh 0, .inr (6, [.ref (sl 0), .ref (se 0), .int (lv 0), .int (ev 0)])), (sh 1, .inr (6, [.ref (sl 1), .ref (se 1), .int (lv 1), .int (ev 1)])), (sh 2, .inr (6, [.ref (sl 2), .ref (se 2), .int (lv 2), .int (ev 2)])), (sh 4, .inr (6, [.ref (sl 4), .ref (se 4), .int (lv 4), .int (ev 4)])), (sh 5, .inr (6, [.ref (sl 5), .ref (se 5), .int (lv 5), .int (ev 5)])), (sh 6, .inr (6, [.ref (sl 6), .ref (se 6), .int (lv 6), .int (ev 6)])), (sh 7, .inr (6, [.ref (sl 7), .ref (se 7), .int (lv 7), .int (ev 7)]))] (fun _ => rfl) rfl (fun _ => rfl) (by decide) (by decide) rfl rfl rfl hl.1 rfl (Nat.le_of_ble_eq_true rfl) d_X_snapshot_14 ⟨by decide, by decide⟩ (fun u H locs w14 hP hD hS => ?_)
    obtain ⟨r, rfl⟩ : ∃ z, z = u := ⟨_, rfl⟩
    have hP : va_P (dC, dI) vwCl [(x, .inr (7, [.int pe, .ref uh, .ref jh, .ref rh, .ref sa, .ref ra, .ref th, .ref lo, .ref tr])), (sa, .inl (cS, 8, .inr (.inr (.inr (.inr (fun i => some (sh i))))))), (sh 0, .inr (6, [.ref (sl 0), .ref (se 0), .int (lv 0), .int (ev 0)])), (sh 1, .inr (6, [.ref (sl 1), .ref (se 1), .int (lv 1), .int (ev 1)])), (sh 2, .inr (6, [.ref (sl 2), .ref (se 2), .int (lv 2), .int (ev 2)])), (sh 3, .inr (6, [.ref (sl 3), .ref (se 3), .int (lv 3), .int (ev 3)])), (sh 4, .inr (6, [.ref (sl 4), .ref (se 4), .int (lv 4), .int (ev 4)])), (sh 5, .inr (6, [.ref (sl 5), .ref (se 5), .int (lv 5), .int (ev 5)])), (sh 6, .inr (6, [.ref (sl 6), .ref (se 6), .int (lv 6), .int (ev 6)])), (sh 7, .inr (6, [.ref (sl 7), .ref (se 7), .int (lv 7), .int (ev 7)]))] H := hP
    have hD : va_D zA [(x, .inr (7, [.int pe, .ref uh, .ref jh, .ref rh, .ref sa, .ref ra, .ref th, .ref lo, .ref tr])), (sa, .inl (cS, 8, .inr (.inr (.inr (.inr (fun i => some (sh i))))))), (sh 0, .inr (6, [.ref (sl 0), .ref (se 0), .int (lv 0), .int (ev 0)])), (sh 1, .inr (6, [.ref (sl 1), .ref (se 1), .int (lv 1), .int (ev 1)])), (sh 2, .inr (6, [.ref (sl 2), .ref (se 2), .int (lv 2), .int (ev 2)])), (sh 3, .inr (6, [.ref (sl 3), .ref (se 3), .int (lv 3), .int (ev 3)])), (sh 4, .inr (6, [.ref (sl 4), .ref (se 4), .int (lv 4), .int (ev 4)])), (sh 5, .inr (6, [.ref (sl 5), .ref (se 5), .int (lv 5), .int (ev 5)])), (sh 6, .inr (6, [.ref (sl 6), .ref (se 6), .int (lv 6), .int (ev 6)])), (sh 7, .inr (6, [.ref (sl 7), .ref (se 7), .int (lv 7), .int (ev 7)]))] := hD
    try dsimp only at w14
    refine W.eq (g2 := F0 zm 17 ls [.int r]) rfl ?_
    refine lv_goto (tgt := 21) hx hb d_X_snapshot_17 (by decide) ?_
    exact us_iret hQ (by decide) (by decide) hx hb hr hlk hK hS r rfl (w14) hP hD d_X_snapshot_21
  · refine lv_aload_n hx hb d_X_snapshot_7 rfl (lv_at hl 0 rfl) ?_
    refine va_get (D := (dC, dI)) (ci := 7) (v := .ref sa) (C := "UpcastStreams") (T := F_X) (N := 9) hx hb hts in_X hown hK hP 0 rfl rfl 4 (by decide) (hts _ uw_1_220) (fun _ h9 => h9) rfl d_X_snapshot_8 ?_
    refine lv_iload_n hx hb d_X_snapshot_11 rfl (lv_at hl 1 rfl) ?_
    refine us_aldq (j := 4) (r := sh 4) hx hb hK hP 1 2 rfl rfl (by unfold vp_in; decide) (by decide) rfl d_X_snapshot_12 ?_
    refine lv_iload_n hx hb d_X_snapshot_13 rfl (lv_at hl 2 rfl) ?_
    refine us_cV (q0 := 6) (As := [.int k]) (rest := []) (N2 := 10) (fun u => [(x, .inr (7, [.int pe, .ref uh, .ref jh, .ref rh, .ref sa, .ref ra, .ref th, .ref lo, .ref tr])), (sa, .inl (cS, 8, .inr (.inr (.inr (.inr (fun i => some (sh i))))))), (sh 0, .inr (6, [.ref (sl 0), .ref (se 0), .int (lv 0), .int (ev 0)])), (sh 1, .inr (6, [.ref (sl 1), .ref (se 1), .int (lv 1), .int (ev 1)])), (sh 2, .inr (6, [.ref (sl 2), .ref (se 2), .int (lv 2), .int (ev 2)])), (sh 3, .inr (6, [.ref (sl 3), .ref (se 3), .int (lv 3), .int (ev 3)])), (sh 4, .inr (6, [.ref (sl 4), .ref (se 4), .int (lv 4), .int (ev 4)])), (sh 5, .inr (6, [.ref (sl 5), .ref (se 5), .int (lv 5), .int (ev 5)])), (sh 6, .inr (6, [.ref (sl 6), .ref (se 6), .int (lv 6), .int (ev 6)])), (sh 7, .inr (6, [.ref (sl 7), .ref (se 7), .int (lv 7), .int (ev 7)]))]) ⟨hx, hb, hml, hown, hts⟩ (c_Shelf_versionOf zl dC dI cI cL cS cR (sh 4) (sl 4) (se 4) (lv 4) (ev 4) k ) (cwV 1 hts (us_gV uw_2_47 uw_2_48 uw_2_49 uw_1_6 k_Shelf_versionOf) rfl rfl rfl h_Shelf_versionOf ⟨by decide, by decide⟩) hK hP hD hS hA [6] [6] [0, 1, 2, 3, 4, 5, 7, 8, 9] rfl (by decide) (fun _ => rfl) [(x, .inr (7, [.int pe, .ref uh, .ref jh, .ref rh, .ref sa, .ref ra, .ref th, .ref lo, .ref tr])), (sa, .inl (cS, 8, .inr (.inr (.inr (.inr (fun i => some (sh i))))))), (sh 0, .inr (6, [.ref (sl 0), .ref (se 0), .int (lv 0), .int (ev 0)])), (sh 1, .inr (6, [.ref (sl 1), .ref (se 1), .int (lv 1), .int (ev 1)])), (sh 2, .inr (6, [.ref (sl 2), .ref (se 2), .int (lv 2), .int (ev 2)])), (sh 3, .inr (6, [.ref (sl 3), .ref (se 3), .int (lv 3), .int (ev 3)])), (sh 5, .inr (6, [.ref (sl 5), .ref (se 5), .int (lv 5), .int (ev 5)])), (sh 6, .inr (6, [.ref (sl 6), .ref (se 6), .int (lv 6), .int (ev 6)])), (sh 7, .inr (6, [.ref (sl 7), .ref (se 7), .int (lv 7), .int (ev 7)]))] (fun _ => rfl) rfl (fun _ => rfl) (by decide) (by decide) rfl rfl rfl hl.1 rfl (Nat.le_of_ble_eq_true rfl) d_X_snapshot_14 ⟨by decide, by decide⟩ (fun u H locs w14 hP hD hS => ?_)
    obtain ⟨r, rfl⟩ : ∃ z, z = u := ⟨_, rfl⟩
    have hP : va_P (dC, dI) vwCl [(x, .inr (7, [.int pe, .ref uh, .ref jh, .ref rh, .ref sa, .ref ra, .ref th, .ref lo, .ref tr])), (sa, .inl (cS, 8, .inr (.inr (.inr (.inr (fun i => some (sh i))))))), (sh 0, .inr (6, [.ref (sl 0), .ref (se 0), .int (lv 0), .int (ev 0)])), (sh 1, .inr (6, [.ref (sl 1), .ref (se 1), .int (lv 1), .int (ev 1)])), (sh 2, .inr (6, [.ref (sl 2), .ref (se 2), .int (lv 2), .int (ev 2)])), (sh 3, .inr (6, [.ref (sl 3), .ref (se 3), .int (lv 3), .int (ev 3)])), (sh 4, .inr (6, [.ref (sl 4), .ref (se 4), .int (lv 4), .int (ev 4)])), (sh 5, .inr (6, [.ref (sl 5), .ref (se 5), .int (lv 5), .int (ev 5)])), (sh 6, .inr (6, [.ref (sl 6), .ref (se 6), .int (lv 6), .int (ev 6)])), (sh 7, .inr (6, [.ref (sl 7), .ref (se 7), .int (lv 7), .int (ev 7)]))] H := hP
    have hD : va_D zA [(x, .inr (7, [.int pe, .ref uh, .ref jh, .ref rh, .ref sa, .ref ra, .ref th, .ref lo, .ref tr])), (sa, .inl (cS, 8, .inr (.inr (.inr (.inr (fun i => some (sh i))))))), (sh 0, .inr (6, [.ref (sl 0), .ref (se 0), .int (lv 0), .int (ev 0)])), (sh 1, .inr (6, [.ref (sl 1), .ref (se 1), .int (lv 1), .int (ev 1)])), (sh 2, .inr (6, [.ref (sl 2), .ref (se 2), .int (lv 2), .int (ev 2)])), (sh 3, .inr (6, [.ref (sl 3), .ref (se 3), .int (lv 3), .int (ev 3)])), (sh 4, .inr (6, [.ref (sl 4), .ref (se 4), .int (lv 4), .int (ev 4)])), (sh 5, .inr (6, [.ref (sl 5), .ref (se 5), .int (lv 5), .int (ev 5)])), (sh 6, .inr (6, [.ref (sl 6), .ref (se 6), .int (lv 6), .int (ev 6)])), (sh 7, .inr (6, [.ref (sl 7), .ref (se 7), .int (lv 7), .int (ev 7)]))] := hD
    try dsimp only at w14
    refine W.eq (g2 := F0 zm 17 ls [.int r]) rfl ?_
    refine lv_goto (tgt := 21) hx hb d_X_snapshot_17 (by decide) ?_
    exact us_iret hQ (by decide) (by decide) hx hb hr hlk hK hS r rfl (w14) hP hD d_X_snapshot_21
  · refine lv_aload_n hx hb d_X_snapshot_7 rfl (lv_at hl 0 rfl) ?_
    refine va_get (D := (dC, dI)) (ci := 7) (v := .ref sa) (C := "UpcastStreams") (T := F_X) (N := 9) hx hb hts in_X hown hK hP 0 rfl rfl 4 (by decide) (hts _ uw_1_220) (fun _ h9 => h9) rfl d_X_snapshot_8 ?_
    refine lv_iload_n hx hb d_X_snapshot_11 rfl (lv_at hl 1 rfl) ?_
    refine us_aldq (j := 5) (r := sh 5) hx hb hK hP 1 2 rfl rfl (by unfold vp_in; decide) (by decide) rfl d_X_snapshot_12 ?_
    refine lv_iload_n hx hb d_X_snapshot_13 rfl (lv_at hl 2 rfl) ?_
    refine us_cV (q0 := 7) (As := [.int k]) (rest := []) (N2 := 10) (fun u => [(x, .inr (7, [.int pe, .ref uh, .ref jh, .ref rh, .ref sa, .ref ra, .ref th, .ref lo, .ref tr])), (sa, .inl (cS, 8, .inr (.inr (.inr (.inr (fun i => some (sh i))))))), (sh 0, .inr (6, [.ref (sl 0), .ref (se 0), .int (lv 0), .int (ev 0)])), (sh 1, .inr (6, [.ref (sl 1), .ref (se 1), .int (lv 1), .int (ev 1)])), (sh 2, .inr (6, [.ref (sl 2), .ref (se 2), .int (lv 2), .int (ev 2)])), (sh 3, .inr (6, [.ref (sl 3), .ref (se 3), .int (lv 3), .int (ev 3)])), (sh 4, .inr (6, [.ref (sl 4), .ref (se 4), .int (lv 4), .int (ev 4)])), (sh 5, .inr (6, [.ref (sl 5), .ref (se 5), .int (lv 5), .int (ev 5)])), (sh 6, .inr (6, [.ref (sl 6), .ref (se 6), .int (lv 6), .int (ev 6)])), (sh 7, .inr (6, [.ref (sl 7), .ref (se 7), .int (lv 7), .int (ev 7)]))]) ⟨hx, hb, hml, hown, hts⟩ (c_Shelf_versionOf zl dC dI cI cL cS cR (sh 5) (sl 5) (se 5) (lv 5) (ev 5) k ) (cwV 1 hts (us_gV uw_2_47 uw_2_48 uw_2_49 uw_1_6 k_Shelf_versionOf) rfl rfl rfl h_Shelf_versionOf ⟨by decide, by decide⟩) hK hP hD hS hA [7] [7] [0, 1, 2, 3, 4, 5, 6, 8, 9] rfl (by decide) (fun _ => rfl) [(x, .inr (7, [.int pe, .ref uh, .ref jh, .ref rh, .ref sa, .ref ra, .ref th, .ref lo, .ref tr])), (sa, .inl (cS, 8, .inr (.inr (.inr (.inr (fun i => some (sh i))))))), (sh 0, .inr (6, [.ref (sl 0), .ref (se 0), .int (lv 0), .int (ev 0)])), (sh 1, .inr (6, [.ref (sl 1), .ref (se 1), .int (lv 1), .int (ev 1)])), (sh 2, .inr (6, [.ref (sl 2), .ref (se 2), .int (lv 2), .int (ev 2)])), (sh 3, .inr (6, [.ref (sl 3), .ref (se 3), .int (lv 3), .int (ev 3)])), (sh 4, .inr (6, [.ref (sl 4), .ref (se 4), .int (lv 4), .int (ev 4)])), (sh 6, .inr (6, [.ref (sl 6), .ref (se 6), .int (lv 6), .int (ev 6)])), (sh 7, .inr (6, [.ref (sl 7), .ref (se 7), .int (lv 7), .int (ev 7)]))] (fun _ => rfl) rfl (fun _ => rfl) (by decide) (by decide) rfl rfl rfl hl.1 rfl (Nat.le_of_ble_eq_true rfl) d_X_snapshot_14 ⟨by decide, by decide⟩ (fun u H locs w14 hP hD hS => ?_)
    obtain ⟨r, rfl⟩ : ∃ z, z = u := ⟨_, rfl⟩
    have hP : va_P (dC, dI) vwCl [(x, .inr (7, [.int pe, .ref uh, .ref jh, .ref rh, .ref sa, .ref ra, .ref th, .ref lo, .ref tr])), (sa, .inl (cS, 8, .inr (.inr (.inr (.inr (fun i => some (sh i))))))), (sh 0, .inr (6, [.ref (sl 0), .ref (se 0), .int (lv 0), .int (ev 0)])), (sh 1, .inr (6, [.ref (sl 1), .ref (se 1), .int (lv 1), .int (ev 1)])), (sh 2, .inr (6, [.ref (sl 2), .ref (se 2), .int (lv 2), .int (ev 2)])), (sh 3, .inr (6, [.ref (sl 3), .ref (se 3), .int (lv 3), .int (ev 3)])), (sh 4, .inr (6, [.ref (sl 4), .ref (se 4), .int (lv 4), .int (ev 4)])), (sh 5, .inr (6, [.ref (sl 5), .ref (se 5), .int (lv 5), .int (ev 5)])), (sh 6, .inr (6, [.ref (sl 6), .ref (se 6), .int (lv 6), .int (ev 6)])), (sh 7, .inr (6, [.ref (sl 7), .ref (se 7), .int (lv 7), .int (ev 7)]))] H := hP
    have hD : va_D zA [(x, .inr (7, [.int pe, .ref uh, .ref jh, .ref rh, .ref sa, .ref ra, .ref th, .ref lo, .ref tr])), (sa, .inl (cS, 8, .inr (.inr (.inr (.inr (fun i => some (sh i))))))), (sh 0, .inr (6, [.ref (sl 0), .ref (se 0), .int (lv 0), .int (ev 0)])), (sh 1, .inr (6, [.ref (sl 1), .ref (se 1), .int (lv 1), .int (ev 1)])), (sh 2, .inr (6, [.ref (sl 2), .ref (se 2), .int (lv 2), .int (ev 2)])), (sh 3, .inr (6, [.ref (sl 3), .ref (se 3), .int (lv 3), .int (ev 3)])), (sh 4, .inr (6, [.ref (sl 4), .ref (se 4), .int (lv 4), .int (ev 4)])), (sh 5, .inr (6, [.ref (sl 5), .ref (se 5), .int (lv 5), .int (ev 5)])), (sh 6, .inr (6, [.ref (sl 6), .ref (se 6), .int (lv 6), .int (ev 6)])), (sh 7, .inr (6, [.ref (sl 7), .ref (se 7), .int (lv 7), .int (ev 7)]))] := hD
    try dsimp only at w14
    refine W.eq (g2 := F0 zm 17 ls [.int r]) rfl ?_
    refine lv_goto (tgt := 21) hx hb d_X_snapshot_17 (by decide) ?_
    exact us_iret hQ (by decide) (by decide) hx hb hr hlk hK hS r rfl (w14) hP hD d_X_snapshot_21
  · refine lv_aload_n hx hb d_X_snapshot_7 rfl (lv_at hl 0 rfl) ?_
    refine va_get (D := (dC, dI)) (ci := 7) (v := .ref sa) (C := "UpcastStreams") (T := F_X) (N := 9) hx hb hts in_X hown hK hP 0 rfl rfl 4 (by decide) (hts _ uw_1_220) (fun _ h9 => h9) rfl d_X_snapshot_8 ?_
    refine lv_iload_n hx hb d_X_snapshot_11 rfl (lv_at hl 1 rfl) ?_
    refine us_aldq (j := 6) (r := sh 6) hx hb hK hP 1 2 rfl rfl (by unfold vp_in; decide) (by decide) rfl d_X_snapshot_12 ?_
    refine lv_iload_n hx hb d_X_snapshot_13 rfl (lv_at hl 2 rfl) ?_
    refine us_cV (q0 := 8) (As := [.int k]) (rest := []) (N2 := 10) (fun u => [(x, .inr (7, [.int pe, .ref uh, .ref jh, .ref rh, .ref sa, .ref ra, .ref th, .ref lo, .ref tr])), (sa, .inl (cS, 8, .inr (.inr (.inr (.inr (fun i => some (sh i))))))), (sh 0, .inr (6, [.ref (sl 0), .ref (se 0), .int (lv 0), .int (ev 0)])), (sh 1, .inr (6, [.ref (sl 1), .ref (se 1), .int (lv 1), .int (ev 1)])), (sh 2, .inr (6, [.ref (sl 2), .ref (se 2), .int (lv 2), .int (ev 2)])), (sh 3, .inr (6, [.ref (sl 3), .ref (se 3), .int (lv 3), .int (ev 3)])), (sh 4, .inr (6, [.ref (sl 4), .ref (se 4), .int (lv 4), .int (ev 4)])), (sh 5, .inr (6, [.ref (sl 5), .ref (se 5), .int (lv 5), .int (ev 5)])), (sh 6, .inr (6, [.ref (sl 6), .ref (se 6), .int (lv 6), .int (ev 6)])), (sh 7, .inr (6, [.ref (sl 7), .ref (se 7), .int (lv 7), .int (ev 7)]))]) ⟨hx, hb, hml, hown, hts⟩ (c_Shelf_versionOf zl dC dI cI cL cS cR (sh 6) (sl 6) (se 6) (lv 6) (ev 6) k ) (cwV 1 hts (us_gV uw_2_47 uw_2_48 uw_2_49 uw_1_6 k_Shelf_versionOf) rfl rfl rfl h_Shelf_versionOf ⟨by decide, by decide⟩) hK hP hD hS hA [8] [8] [0, 1, 2, 3, 4, 5, 6, 7, 9] rfl (by decide) (fun _ => rfl) [(x, .inr (7, [.int pe, .ref uh, .ref jh, .ref rh, .ref sa, .ref ra, .ref th, .ref lo, .ref tr])), (sa, .inl (cS, 8, .inr (.inr (.inr (.inr (fun i => some (sh i))))))), (sh 0, .inr (6, [.ref (sl 0), .ref (se 0), .int (lv 0), .int (ev 0)])), (sh 1, .inr (6, [.ref (sl 1), .ref (se 1), .int (lv 1), .int (ev 1)])), (sh 2, .inr (6, [.ref (sl 2), .ref (se 2), .int (lv 2), .int (ev 2)])), (sh 3, .inr (6, [.ref (sl 3), .ref (se 3), .int (lv 3), .int (ev 3)])), (sh 4, .inr (6, [.ref (sl 4), .ref (se 4), .int (lv 4), .int (ev 4)])), (sh 5, .inr (6, [.ref (sl 5), .ref (se 5), .int (lv 5), .int (ev 5)])), (sh 7, .inr (6, [.ref (sl 7), .ref (se 7), .int (lv 7), .int (ev 7)]))] (fun _ => rfl) rfl (fun _ => rfl) (by decide) (by decide) rfl rfl rfl hl.1 rfl (Nat.le_of_ble_eq_true rfl) d_X_snapshot_14 ⟨by decide, by decide⟩ (fun u H locs w14 hP hD hS => ?_)
    obtain ⟨r, rfl⟩ : ∃ z, z = u := ⟨_, rfl⟩
    have hP : va_P (dC, dI) vwCl [(x, .inr (7, [.int pe, .ref uh, .ref jh, .ref rh, .ref sa, .ref ra, .ref th, .ref lo, .ref tr])), (sa, .inl (cS, 8, .inr (.inr (.inr (.inr (fun i => some (sh i))))))), (sh 0, .inr (6, [.ref (sl 0), .ref (se 0), .int (lv 0), .int (ev 0)])), (sh 1, .inr (6, [.ref (sl 1), .ref (se 1), .int (lv 1), .int (ev 1)])), (sh 2, .inr (6, [.ref (sl 2), .ref (se 2), .int (lv 2), .int (ev 2)])), (sh 3, .inr (6, [.ref (sl 3), .ref (se 3), .int (lv 3), .int (ev 3)])), (sh 4, .inr (6, [.ref (sl 4), .ref (se 4), .int (lv 4), .int (ev 4)])), (sh 5, .inr (6, [.ref (sl 5), .ref (se 5), .int (lv 5), .int (ev 5)])), (sh 6, .inr (6, [.ref (sl 6), .ref (se 6), .int (lv 6), .int (ev 6)])), (sh 7, .inr (6, [.ref (sl 7), .ref (se 7), .int (lv 7), .int (ev 7)]))] H := hP
    have hD : va_D zA [(x, .inr (7, [.int pe, .ref uh, .ref jh, .ref rh, .ref sa, .ref ra, .ref th, .ref lo, .ref tr])), (sa, .inl (cS, 8, .inr (.inr (.inr (.inr (fun i => some (sh i))))))), (sh 0, .inr (6, [.ref (sl 0), .ref (se 0), .int (lv 0), .int (ev 0)])), (sh 1, .inr (6, [.ref (sl 1), .ref (se 1), .int (lv 1), .int (ev 1)])), (sh 2, .inr (6, [.ref (sl 2), .ref (se 2), .int (lv 2), .int (ev 2)])), (sh 3, .inr (6, [.ref (sl 3), .ref (se 3), .int (lv 3), .int (ev 3)])), (sh 4, .inr (6, [.ref (sl 4), .ref (se 4), .int (lv 4), .int (ev 4)])), (sh 5, .inr (6, [.ref (sl 5), .ref (se 5), .int (lv 5), .int (ev 5)])), (sh 6, .inr (6, [.ref (sl 6), .ref (se 6), .int (lv 6), .int (ev 6)])), (sh 7, .inr (6, [.ref (sl 7), .ref (se 7), .int (lv 7), .int (ev 7)]))] := hD
    try dsimp only at w14
    refine W.eq (g2 := F0 zm 17 ls [.int r]) rfl ?_
    refine lv_goto (tgt := 21) hx hb d_X_snapshot_17 (by decide) ?_
    exact us_iret hQ (by decide) (by decide) hx hb hr hlk hK hS r rfl (w14) hP hD d_X_snapshot_21
  · refine lv_aload_n hx hb d_X_snapshot_7 rfl (lv_at hl 0 rfl) ?_
    refine va_get (D := (dC, dI)) (ci := 7) (v := .ref sa) (C := "UpcastStreams") (T := F_X) (N := 9) hx hb hts in_X hown hK hP 0 rfl rfl 4 (by decide) (hts _ uw_1_220) (fun _ h9 => h9) rfl d_X_snapshot_8 ?_
    refine lv_iload_n hx hb d_X_snapshot_11 rfl (lv_at hl 1 rfl) ?_
    refine us_aldq (j := 7) (r := sh 7) hx hb hK hP 1 2 rfl rfl (by unfold vp_in; decide) (by decide) rfl d_X_snapshot_12 ?_
    refine lv_iload_n hx hb d_X_snapshot_13 rfl (lv_at hl 2 rfl) ?_
    refine us_cV (q0 := 9) (As := [.int k]) (rest := []) (N2 := 10) (fun u => [(x, .inr (7, [.int pe, .ref uh, .ref jh, .ref rh, .ref sa, .ref ra, .ref th, .ref lo, .ref tr])), (sa, .inl (cS, 8, .inr (.inr (.inr (.inr (fun i => some (sh i))))))), (sh 0, .inr (6, [.ref (sl 0), .ref (se 0), .int (lv 0), .int (ev 0)])), (sh 1, .inr (6, [.ref (sl 1), .ref (se 1), .int (lv 1), .int (ev 1)])), (sh 2, .inr (6, [.ref (sl 2), .ref (se 2), .int (lv 2), .int (ev 2)])), (sh 3, .inr (6, [.ref (sl 3), .ref (se 3), .int (lv 3), .int (ev 3)])), (sh 4, .inr (6, [.ref (sl 4), .ref (se 4), .int (lv 4), .int (ev 4)])), (sh 5, .inr (6, [.ref (sl 5), .ref (se 5), .int (lv 5), .int (ev 5)])), (sh 6, .inr (6, [.ref (sl 6), .ref (se 6), .int (lv 6), .int (ev 6)])), (sh 7, .inr (6, [.ref (sl 7), .ref (se 7), .int (lv 7), .int (ev 7)]))]) ⟨hx, hb, hml, hown, hts⟩ (c_Shelf_versionOf zl dC dI cI cL cS cR (sh 7) (sl 7) (se 7) (lv 7) (ev 7) k ) (cwV 1 hts (us_gV uw_2_47 uw_2_48 uw_2_49 uw_1_6 k_Shelf_versionOf) rfl rfl rfl h_Shelf_versionOf ⟨by decide, by decide⟩) hK hP hD hS hA [9] [9] [0, 1, 2, 3, 4, 5, 6, 7, 8] rfl (by decide) (fun _ => rfl) [(x, .inr (7, [.int pe, .ref uh, .ref jh, .ref rh, .ref sa, .ref ra, .ref th, .ref lo, .ref tr])), (sa, .inl (cS, 8, .inr (.inr (.inr (.inr (fun i => some (sh i))))))), (sh 0, .inr (6, [.ref (sl 0), .ref (se 0), .int (lv 0), .int (ev 0)])), (sh 1, .inr (6, [.ref (sl 1), .ref (se 1), .int (lv 1), .int (ev 1)])), (sh 2, .inr (6, [.ref (sl 2), .ref (se 2), .int (lv 2), .int (ev 2)])), (sh 3, .inr (6, [.ref (sl 3), .ref (se 3), .int (lv 3), .int (ev 3)])), (sh 4, .inr (6, [.ref (sl 4), .ref (se 4), .int (lv 4), .int (ev 4)])), (sh 5, .inr (6, [.ref (sl 5), .ref (se 5), .int (lv 5), .int (ev 5)])), (sh 6, .inr (6, [.ref (sl 6), .ref (se 6), .int (lv 6), .int (ev 6)]))] (fun _ => rfl) rfl (fun _ => rfl) (by decide) (by decide) rfl rfl rfl hl.1 rfl (Nat.le_of_ble_eq_true rfl) d_X_snapshot_14 ⟨by decide, by decide⟩ (fun u H locs w14 hP hD hS => ?_)
    obtain ⟨r, rfl⟩ : ∃ z, z = u := ⟨_, rfl⟩
    have hP : va_P (dC, dI) vwCl [(x, .inr (7, [.int pe, .ref uh, .ref jh, .ref rh, .ref sa, .ref ra, .ref th, .ref lo, .ref tr])), (sa, .inl (cS, 8, .inr (.inr (.inr (.inr (fun i => some (sh i))))))), (sh 0, .inr (6, [.ref (sl 0), .ref (se 0), .int (lv 0), .int (ev 0)])), (sh 1, .inr (6, [.ref (sl 1), .ref (se 1), .int (lv 1), .int (ev 1)])), (sh 2, .inr (6, [.ref (sl 2), .ref (se 2), .int (lv 2), .int (ev 2)])), (sh 3, .inr (6, [.ref (sl 3), .ref (se 3), .int (lv 3), .int (ev 3)])), (sh 4, .inr (6, [.ref (sl 4), .ref (se 4), .int (lv 4), .int (ev 4)])), (sh 5, .inr (6, [.ref (sl 5), .ref (se 5), .int (lv 5), .int (ev 5)])), (sh 6, .inr (6, [.ref (sl 6), .ref (se 6), .int (lv 6), .int (ev 6)])), (sh 7, .inr (6, [.ref (sl 7), .ref (se 7), .int (lv 7), .int (ev 7)]))] H := hP
    have hD : va_D zA [(x, .inr (7, [.int pe, .ref uh, .ref jh, .ref rh, .ref sa, .ref ra, .ref th, .ref lo, .ref tr])), (sa, .inl (cS, 8, .inr (.inr (.inr (.inr (fun i => some (sh i))))))), (sh 0, .inr (6, [.ref (sl 0), .ref (se 0), .int (lv 0), .int (ev 0)])), (sh 1, .inr (6, [.ref (sl 1), .ref (se 1), .int (lv 1), .int (ev 1)])), (sh 2, .inr (6, [.ref (sl 2), .ref (se 2), .int (lv 2), .int (ev 2)])), (sh 3, .inr (6, [.ref (sl 3), .ref (se 3), .int (lv 3), .int (ev 3)])), (sh 4, .inr (6, [.ref (sl 4), .ref (se 4), .int (lv 4), .int (ev 4)])), (sh 5, .inr (6, [.ref (sl 5), .ref (se 5), .int (lv 5), .int (ev 5)])), (sh 6, .inr (6, [.ref (sl 6), .ref (se 6), .int (lv 6), .int (ev 6)])), (sh 7, .inr (6, [.ref (sl 7), .ref (se 7), .int (lv 7), .int (ev 7)]))] := hD
    try dsimp only at w14
    refine W.eq (g2 := F0 zm 17 ls [.int r]) rfl ?_
    refine lv_goto (tgt := 21) hx hb d_X_snapshot_17 (by decide) ?_
    exact us_iret hQ (by decide) (by decide) hx hb hr hlk hK hS r rfl (w14) hP hD d_X_snapshot_21

set_option maxHeartbeats 4000000 in
set_option maxRecDepth 100000 in
theorem c_X_snapshot_no (zl : Launch) (dC : Nat → ClassId) (dI : Nat → Nat → Nat) (cI cL cS cR : ClassId) (x : Nat) (uh : Nat) (jh : Nat) (rh : Nat) (sa : Nat) (ra : Nat) (th : Nat) (lo : Nat) (tr : Nat) (pe : Int32) (sh : Nat → Nat) (sl : Nat → Nat) (se : Nat → Nat) (lv : Nat → Int32) (ev : Nat → Int32) (y : Int32) (k : Int32) (hy : ¬ (0 ≤ y ∧ y < 8)) : us_Met (S := Unit) zl y_X_snapshot w_X_snapshot ({ frames := 1, cells := 0, slots := 0, locals := 20 }) (dC, dI) vwCl (us_ty cI cL cS cR) [.ref x, .int y, .int k] [(x, .inr (7, [.int pe, .ref uh, .ref jh, .ref rh, .ref sa, .ref ra, .ref th, .ref lo, .ref tr])), (sa, .inl (cS, 8, .inr (.inr (.inr (.inr (fun i => some (sh i))))))), (sh 0, .inr (6, [.ref (sl 0), .ref (se 0), .int (lv 0), .int (ev 0)])), (sh 1, .inr (6, [.ref (sl 1), .ref (se 1), .int (lv 1), .int (ev 1)])), (sh 2, .inr (6, [.ref (sl 2), .ref (se 2), .int (lv 2), .int (ev 2)])), (sh 3, .inr (6, [.ref (sl 3), .ref (se 3), .int (lv 3), .int (ev 3)])), (sh 4, .inr (6, [.ref (sl 4), .ref (se 4), .int (lv 4), .int (ev 4)])), (sh 5, .inr (6, [.ref (sl 5), .ref (se 5), .int (lv 5), .int (ev 5)])), (sh 6, .inr (6, [.ref (sl 6), .ref (se 6), .int (lv 6), .int (ev 6)])), (sh 7, .inr (6, [.ref (sl 7), .ref (se 7), .int (lv 7), .int (ev 7)]))] (fun u => some (.int (-1 : Int32))) (fun u => True) (fun u => [(x, .inr (7, [.int pe, .ref uh, .ref jh, .ref rh, .ref sa, .ref ra, .ref th, .ref lo, .ref tr])), (sa, .inl (cS, 8, .inr (.inr (.inr (.inr (fun i => some (sh i))))))), (sh 0, .inr (6, [.ref (sl 0), .ref (se 0), .int (lv 0), .int (ev 0)])), (sh 1, .inr (6, [.ref (sl 1), .ref (se 1), .int (lv 1), .int (ev 1)])), (sh 2, .inr (6, [.ref (sl 2), .ref (se 2), .int (lv 2), .int (ev 2)])), (sh 3, .inr (6, [.ref (sl 3), .ref (se 3), .int (lv 3), .int (ev 3)])), (sh 4, .inr (6, [.ref (sl 4), .ref (se 4), .int (lv 4), .int (ev 4)])), (sh 5, .inr (6, [.ref (sl 5), .ref (se 5), .int (lv 5), .int (ev 5)])), (sh 6, .inr (6, [.ref (sl 6), .ref (se 6), .int (lv 6), .int (ev 6)])), (sh 7, .inr (6, [.ref (sl 7), .ref (se 7), .int (lv 7), .int (ev 7)]))]) := by
  refine us_ofW (cc := b_X_snapshot) (maxL := 3) (ret := (some .int)) (by decide) (Nat.le_of_ble_eq_true rfl) ?_
  intro zp ze zs zm args below meth zc zA ls zQ hQ hx hb hr hml hts hown hlk hin hl hK hP hD hS hA
  have hown : zs.vm.findClass "UpcastStreams" = some zm.cls := hown
  have hl : lv_has ls 3 [(0, .ref x), (1, .int y), (2, .int k)] := hl
  obtain ⟨H, hH⟩ : ∃ H, H = zs.heap := ⟨_, rfl⟩
  rw [← hH] at hP ⊢
  have hS : va_S zA zs.heap H [] := hH ▸ hS
  generalize ([] : List Loc) = locs at hS ⊢
  refine lv_iload_n hx hb d_X_snapshot_0 rfl (lv_at hl 1 rfl) ?_
  refine us_callRS (As := [.int y]) (rest := []) ⟨hx, hb, hml, hown, hts⟩ (c_X_isStream zl dC dI cI cL cS cR y ) ⟨callB_of 1 hts (us_gC k_X_isStream) rfl rfl rfl (hts _ uw_1_1) (hts _ uw_2_27) h_X_isStream.2 ⟨by decide, by decide⟩, (hts _ uw_2_28)⟩ hK hP hS hA [] rfl rfl hl.1 rfl (Nat.le_of_ble_eq_true rfl) d_X_snapshot_1 ⟨by decide, by decide⟩ (fun u H locs w1 hP hS => ?_)
  obtain ⟨r1, rfl⟩ : ∃ z, z = u := ⟨_, rfl⟩
  try dsimp only at w1
  refine W.eq (g2 := F0 zm 4 ls [.int r1]) rfl ?_
  refine lv_if_eq (tgt := 20) hx hb d_X_snapshot_4 (by decide) (fun c1 => ?_) (fun h => absurd (us_d1 w1 h) hy)
  refine lv_iconst (v := (-1 : Int32)) hx hb d_X_snapshot_20 (by decide) ?_
  exact us_iret hQ (by decide) (by decide) hx hb hr hlk hK hS () rfl (by simp) hP hD d_X_snapshot_21

set_option maxHeartbeats 4000000 in
set_option maxRecDepth 100000 in
theorem c_X_cursor (zl : Launch) (dC : Nat → ClassId) (dI : Nat → Nat → Nat) (cI cL cS cR : ClassId) (x : Nat) (uh : Nat) (jh : Nat) (rh : Nat) (sa : Nat) (ra : Nat) (th : Nat) (lo : Nat) (tr : Nat) (pe : Int32) (rd : Nat → Nat) (rc : Nat → Int32) (rm : Nat → Int32) (rs : Nat → Int32) (rt : Nat → Int32) (j : Nat) (hj : j < 4) : us_Met (S := Int32) zl y_X_cursor w_X_cursor ({ frames := 1, cells := 0, slots := 0, locals := 20 }) (dC, dI) vwCl (us_ty cI cL cS cR) [.ref x, .int (nI j)] [(x, .inr (7, [.int pe, .ref uh, .ref jh, .ref rh, .ref sa, .ref ra, .ref th, .ref lo, .ref tr])), (ra, .inl (cR, 4, .inr (.inr (.inr (.inr (fun i => some (rd i))))))), (rd 0, .inr (2, [.int (rc 0), .int (rm 0), .int (rs 0), .int (rt 0)])), (rd 1, .inr (2, [.int (rc 1), .int (rm 1), .int (rs 1), .int (rt 1)])), (rd 2, .inr (2, [.int (rc 2), .int (rm 2), .int (rs 2), .int (rt 2)])), (rd 3, .inr (2, [.int (rc 3), .int (rm 3), .int (rs 3), .int (rt 3)]))] (fun u => some (.int u)) (fun u => u = rc j) (fun u => [(x, .inr (7, [.int pe, .ref uh, .ref jh, .ref rh, .ref sa, .ref ra, .ref th, .ref lo, .ref tr])), (ra, .inl (cR, 4, .inr (.inr (.inr (.inr (fun i => some (rd i))))))), (rd 0, .inr (2, [.int (rc 0), .int (rm 0), .int (rs 0), .int (rt 0)])), (rd 1, .inr (2, [.int (rc 1), .int (rm 1), .int (rs 1), .int (rt 1)])), (rd 2, .inr (2, [.int (rc 2), .int (rm 2), .int (rs 2), .int (rt 2)])), (rd 3, .inr (2, [.int (rc 3), .int (rm 3), .int (rs 3), .int (rt 3)]))]) := by
  refine us_ofW (cc := b_X_cursor) (maxL := 2) (ret := (some .int)) (by decide) (Nat.le_of_ble_eq_true rfl) ?_
  intro zp ze zs zm args below meth zc zA ls zQ hQ hx hb hr hml hts hown hlk hin hl hK hP hD hS hA
  have hown : zs.vm.findClass "UpcastStreams" = some zm.cls := hown
  have hl : lv_has ls 2 [(0, .ref x), (1, .int (nI j))] := hl
  obtain ⟨H, hH⟩ : ∃ H, H = zs.heap := ⟨_, rfl⟩
  rw [← hH] at hP ⊢
  have hS : va_S zA zs.heap H [] := hH ▸ hS
  generalize ([] : List Loc) = locs at hS ⊢
  refine lv_iload_n hx hb d_X_cursor_0 rfl (lv_at hl 1 rfl) ?_
  refine us_callRS (As := [.int (nI j)]) (rest := []) ⟨hx, hb, hml, hown, hts⟩ (c_X_isReader zl dC dI cI cL cS cR (nI j) ) ⟨callB_of 1 hts (us_gC k_X_isReader) rfl rfl rfl (hts _ uw_1_1) (hts _ uw_2_55) h_X_isReader.2 ⟨by decide, by decide⟩, (hts _ uw_2_56)⟩ hK hP hS hA [] rfl rfl hl.1 rfl (Nat.le_of_ble_eq_true rfl) d_X_cursor_1 ⟨by decide, by decide⟩ (fun u H locs w1 hP hS => ?_)
  obtain ⟨r1, rfl⟩ : ∃ z, z = u := ⟨_, rfl⟩
  try dsimp only at w1
  refine W.eq (g2 := F0 zm 4 ls [.int r1]) rfl ?_
  refine lv_if_eq (tgt := 19) hx hb d_X_cursor_4 (by decide) (fun h => absurd ⟨nI_pos' (by omega), nI_lt (b := 4) hj (by omega)⟩ (us_d0 w1 h)) (fun c1 => ?_)
  rcases (show j = 0 ∨ j = 1 ∨ j = 2 ∨ j = 3 by omega) with rfl | rfl | rfl | rfl
  · refine lv_aload_n hx hb d_X_cursor_7 rfl (lv_at hl 0 rfl) ?_
    refine va_get (D := (dC, dI)) (ci := 7) (v := .ref ra) (C := "UpcastStreams") (T := F_X) (N := 9) hx hb hts in_X hown hK hP 0 rfl rfl 5 (by decide) (hts _ uw_1_221) (fun _ h9 => h9) rfl d_X_cursor_8 ?_
    refine lv_iload_n hx hb d_X_cursor_11 rfl (lv_at hl 1 rfl) ?_
    refine us_aldq (j := 0) (r := rd 0) hx hb hK hP 1 3 rfl rfl (by unfold vp_in; decide) (by decide) rfl d_X_cursor_12 ?_
    refine va_get (D := (dC, dI)) (ci := 2) (v := .int (rc 0)) (C := "UpcastStreams$Reader") (T := F_Reader) (N := 4) hx hb hts in_Reader hown hK hP 2 rfl rfl 0 (by decide) (hts _ uw_1_181) (fun _ h9 => h9) rfl d_X_cursor_13 ?_
    refine lv_goto (tgt := 20) hx hb d_X_cursor_16 (by decide) ?_
    exact us_iret hQ (by decide) (by decide) hx hb hr hlk hK hS (rc 0) rfl (rfl) hP hD d_X_cursor_20
  · refine lv_aload_n hx hb d_X_cursor_7 rfl (lv_at hl 0 rfl) ?_
    refine va_get (D := (dC, dI)) (ci := 7) (v := .ref ra) (C := "UpcastStreams") (T := F_X) (N := 9) hx hb hts in_X hown hK hP 0 rfl rfl 5 (by decide) (hts _ uw_1_221) (fun _ h9 => h9) rfl d_X_cursor_8 ?_
    refine lv_iload_n hx hb d_X_cursor_11 rfl (lv_at hl 1 rfl) ?_
    refine us_aldq (j := 1) (r := rd 1) hx hb hK hP 1 3 rfl rfl (by unfold vp_in; decide) (by decide) rfl d_X_cursor_12 ?_
    refine va_get (D := (dC, dI)) (ci := 2) (v := .int (rc 1)) (C := "UpcastStreams$Reader") (T := F_Reader) (N := 4) hx hb hts in_Reader hown hK hP 3 rfl rfl 0 (by decide) (hts _ uw_1_181) (fun _ h9 => h9) rfl d_X_cursor_13 ?_
    refine lv_goto (tgt := 20) hx hb d_X_cursor_16 (by decide) ?_
    exact us_iret hQ (by decide) (by decide) hx hb hr hlk hK hS (rc 1) rfl (rfl) hP hD d_X_cursor_20
  · refine lv_aload_n hx hb d_X_cursor_7 rfl (lv_at hl 0 rfl) ?_
    refine va_get (D := (dC, dI)) (ci := 7) (v := .ref ra) (C := "UpcastStreams") (T := F_X) (N := 9) hx hb hts in_X hown hK hP 0 rfl rfl 5 (by decide) (hts _ uw_1_221) (fun _ h9 => h9) rfl d_X_cursor_8 ?_
    refine lv_iload_n hx hb d_X_cursor_11 rfl (lv_at hl 1 rfl) ?_
    refine us_aldq (j := 2) (r := rd 2) hx hb hK hP 1 3 rfl rfl (by unfold vp_in; decide) (by decide) rfl d_X_cursor_12 ?_
    refine va_get (D := (dC, dI)) (ci := 2) (v := .int (rc 2)) (C := "UpcastStreams$Reader") (T := F_Reader) (N := 4) hx hb hts in_Reader hown hK hP 4 rfl rfl 0 (by decide) (hts _ uw_1_181) (fun _ h9 => h9) rfl d_X_cursor_13 ?_
    refine lv_goto (tgt := 20) hx hb d_X_cursor_16 (by decide) ?_
    exact us_iret hQ (by decide) (by decide) hx hb hr hlk hK hS (rc 2) rfl (rfl) hP hD d_X_cursor_20
  · refine lv_aload_n hx hb d_X_cursor_7 rfl (lv_at hl 0 rfl) ?_
    refine va_get (D := (dC, dI)) (ci := 7) (v := .ref ra) (C := "UpcastStreams") (T := F_X) (N := 9) hx hb hts in_X hown hK hP 0 rfl rfl 5 (by decide) (hts _ uw_1_221) (fun _ h9 => h9) rfl d_X_cursor_8 ?_
    refine lv_iload_n hx hb d_X_cursor_11 rfl (lv_at hl 1 rfl) ?_
    refine us_aldq (j := 3) (r := rd 3) hx hb hK hP 1 3 rfl rfl (by unfold vp_in; decide) (by decide) rfl d_X_cursor_12 ?_
    refine va_get (D := (dC, dI)) (ci := 2) (v := .int (rc 3)) (C := "UpcastStreams$Reader") (T := F_Reader) (N := 4) hx hb hts in_Reader hown hK hP 5 rfl rfl 0 (by decide) (hts _ uw_1_181) (fun _ h9 => h9) rfl d_X_cursor_13 ?_
    refine lv_goto (tgt := 20) hx hb d_X_cursor_16 (by decide) ?_
    exact us_iret hQ (by decide) (by decide) hx hb hr hlk hK hS (rc 3) rfl (rfl) hP hD d_X_cursor_20

set_option maxHeartbeats 4000000 in
set_option maxRecDepth 100000 in
theorem c_X_cursor_no (zl : Launch) (dC : Nat → ClassId) (dI : Nat → Nat → Nat) (cI cL cS cR : ClassId) (x : Nat) (uh : Nat) (jh : Nat) (rh : Nat) (sa : Nat) (ra : Nat) (th : Nat) (lo : Nat) (tr : Nat) (pe : Int32) (rd : Nat → Nat) (rc : Nat → Int32) (rm : Nat → Int32) (rs : Nat → Int32) (rt : Nat → Int32) (y : Int32) (hy : ¬ (0 ≤ y ∧ y < 4)) : us_Met (S := Unit) zl y_X_cursor w_X_cursor ({ frames := 1, cells := 0, slots := 0, locals := 20 }) (dC, dI) vwCl (us_ty cI cL cS cR) [.ref x, .int y] [(x, .inr (7, [.int pe, .ref uh, .ref jh, .ref rh, .ref sa, .ref ra, .ref th, .ref lo, .ref tr])), (ra, .inl (cR, 4, .inr (.inr (.inr (.inr (fun i => some (rd i))))))), (rd 0, .inr (2, [.int (rc 0), .int (rm 0), .int (rs 0), .int (rt 0)])), (rd 1, .inr (2, [.int (rc 1), .int (rm 1), .int (rs 1), .int (rt 1)])), (rd 2, .inr (2, [.int (rc 2), .int (rm 2), .int (rs 2), .int (rt 2)])), (rd 3, .inr (2, [.int (rc 3), .int (rm 3), .int (rs 3), .int (rt 3)]))] (fun u => some (.int (-1 : Int32))) (fun u => True) (fun u => [(x, .inr (7, [.int pe, .ref uh, .ref jh, .ref rh, .ref sa, .ref ra, .ref th, .ref lo, .ref tr])), (ra, .inl (cR, 4, .inr (.inr (.inr (.inr (fun i => some (rd i))))))), (rd 0, .inr (2, [.int (rc 0), .int (rm 0), .int (rs 0), .int (rt 0)])), (rd 1, .inr (2, [.int (rc 1), .int (rm 1), .int (rs 1), .int (rt 1)])), (rd 2, .inr (2, [.int (rc 2), .int (rm 2), .int (rs 2), .int (rt 2)])), (rd 3, .inr (2, [.int (rc 3), .int (rm 3), .int (rs 3), .int (rt 3)]))]) := by
  refine us_ofW (cc := b_X_cursor) (maxL := 2) (ret := (some .int)) (by decide) (Nat.le_of_ble_eq_true rfl) ?_
  intro zp ze zs zm args below meth zc zA ls zQ hQ hx hb hr hml hts hown hlk hin hl hK hP hD hS hA
  have hown : zs.vm.findClass "UpcastStreams" = some zm.cls := hown
  have hl : lv_has ls 2 [(0, .ref x), (1, .int y)] := hl
  obtain ⟨H, hH⟩ : ∃ H, H = zs.heap := ⟨_, rfl⟩
  rw [← hH] at hP ⊢
  have hS : va_S zA zs.heap H [] := hH ▸ hS
  generalize ([] : List Loc) = locs at hS ⊢
  refine lv_iload_n hx hb d_X_cursor_0 rfl (lv_at hl 1 rfl) ?_
  refine us_callRS (As := [.int y]) (rest := []) ⟨hx, hb, hml, hown, hts⟩ (c_X_isReader zl dC dI cI cL cS cR y ) ⟨callB_of 1 hts (us_gC k_X_isReader) rfl rfl rfl (hts _ uw_1_1) (hts _ uw_2_55) h_X_isReader.2 ⟨by decide, by decide⟩, (hts _ uw_2_56)⟩ hK hP hS hA [] rfl rfl hl.1 rfl (Nat.le_of_ble_eq_true rfl) d_X_cursor_1 ⟨by decide, by decide⟩ (fun u H locs w1 hP hS => ?_)
  obtain ⟨r1, rfl⟩ : ∃ z, z = u := ⟨_, rfl⟩
  try dsimp only at w1
  refine W.eq (g2 := F0 zm 4 ls [.int r1]) rfl ?_
  refine lv_if_eq (tgt := 19) hx hb d_X_cursor_4 (by decide) (fun c1 => ?_) (fun h => absurd (us_d1 w1 h) hy)
  refine lv_iconst (v := (-1 : Int32)) hx hb d_X_cursor_19 (by decide) ?_
  exact us_iret hQ (by decide) (by decide) hx hb hr hlk hK hS () rfl (by simp) hP hD d_X_cursor_20
