set_option maxHeartbeats 4000000 in
set_option maxRecDepth 100000 in
theorem c_Row_clear (zl : Launch) (dC : Nat → ClassId) (dI : Nat → Nat → Nat) (cI cL cS cR : ClassId) (h : Nat) (t : Nat) (f : Nat) (a : Nat) (b : Nat) (z : Int32)  : us_Met (S := Unit) zl y_Row_clear w_Row_clear ({ frames := 0, cells := 0, slots := 0, locals := 0 }) (dC, dI) vwCl (us_ty cI cL cS cR) [.ref h] [(h, .inr (0, [.ref t, .ref f, .ref a, .ref b, .int z]))] (fun _ => none) (fun u => True) (fun u => [(h, .inr (0, [.ref t, .ref f, .ref a, .ref b, .int (nI 0)]))]) := by
  refine us_ofW (cc := b_Row_clear) (maxL := 1) (ret := none) (by decide) (Nat.le_of_ble_eq_true rfl) ?_
  intro zp ze zs zm args below meth zc zA ls zQ hQ hx hb hr hml hts hown hlk hin hl hK hP hD hS hA
  have hown : zs.vm.findClass "UpcastStreams$Row" = some zm.cls := hown
  have hl : lv_has ls 1 [(0, .ref h)] := hl
  obtain ⟨H, hH⟩ : ∃ H, H = zs.heap := ⟨_, rfl⟩
  rw [← hH] at hP ⊢
  have hS : va_S zA zs.heap H [] := hH ▸ hS
  generalize ([] : List Loc) = locs at hS ⊢
  refine lv_aload_n hx hb d_Row_clear_0 rfl (lv_at hl 0 rfl) ?_
  refine lv_iconst (v := (0 : Int32)) hx hb d_Row_clear_1 (by decide) ?_
  refine us_top (show (0 : Int32) = (nI 0) from rfl) ?_
  refine va_put (D := (dC, dI)) (ci := 0) (v := .int (nI 0)) (ty := .int) (C := "UpcastStreams$Row") (T := F_Row) (N := 5) hx hb hts in_Row t_Row t_Row_ok n_Row hown hK hP hD hS 0 rfl rfl 4 (by decide) (hts _ uw_1_57) (fun _ h9 => h9) rfl (by decide +kernel) rfl rfl (Nat.le_of_ble_eq_true rfl) d_Row_clear_2 (fun H locs hP hD hS => ?_)
  have hP : va_P (dC, dI) vwCl [(h, .inr (0, [.ref t, .ref f, .ref a, .ref b, .int (nI 0)]))] H := hP
  have hD : va_D zA [(h, .inr (0, [.ref t, .ref f, .ref a, .ref b, .int (nI 0)]))] := hD
  exact us_vret hQ (by decide) (by decide) hx hb hr hlk hK hS () rfl (by simp) hP hD d_Row_clear_5

set_option maxHeartbeats 4000000 in
set_option maxRecDepth 100000 in
theorem c_Row_put (zl : Launch) (dC : Nat → ClassId) (dI : Nat → Nat → Nat) (cI cL cS cR : ClassId) (h : Nat) (t : Nat) (f : Nat) (a : Nat) (b : Nat) (M : Nat) (n : Nat) (T : Nat → Int32) (F : Nat → Int32) (U : Nat → Int32) (V : Nat → Int32) (ty : Int32) (fo : Int32) (x : Int32) (y : Int32) (hn : n < M) (hM : M ≤ 64) : us_Met (S := Unit) zl y_Row_put w_Row_put ({ frames := 0, cells := 0, slots := 0, locals := 0 }) (dC, dI) vwCl (us_ty cI cL cS cR) [.ref h, .int ty, .int fo, .int x, .int y] [(h, .inr (0, [.ref t, .ref f, .ref a, .ref b, .int (nI n)])), (t, .inl (cI, M, .inl T)), (f, .inl (cI, M, .inl F)), (a, .inl (cI, M, .inl U)), (b, .inl (cI, M, .inl V))] (fun _ => none) (fun u => True) (fun u => [(h, .inr (0, [.ref t, .ref f, .ref a, .ref b, .int (nI (n + 1))])), (t, .inl (cI, M, .inl (upd T n ty))), (f, .inl (cI, M, .inl (upd F n fo))), (a, .inl (cI, M, .inl (upd U n x))), (b, .inl (cI, M, .inl (upd V n y)))]) := by
  refine us_ofW (cc := b_Row_put) (maxL := 5) (ret := none) (by decide) (Nat.le_of_ble_eq_true rfl) ?_
  intro zp ze zs zm args below meth zc zA ls zQ hQ hx hb hr hml hts hown hlk hin hl hK hP hD hS hA
  have hown : zs.vm.findClass "UpcastStreams$Row" = some zm.cls := hown
  have hl : lv_has ls 5 [(0, .ref h), (1, .int ty), (2, .int fo), (3, .int x), (4, .int y)] := hl
  obtain ⟨H, hH⟩ : ∃ H, H = zs.heap := ⟨_, rfl⟩
  rw [← hH] at hP ⊢
  have hS : va_S zA zs.heap H [] := hH ▸ hS
  generalize ([] : List Loc) = locs at hS ⊢
  refine lv_aload_n hx hb d_Row_put_0 rfl (lv_at hl 0 rfl) ?_
  refine va_get (D := (dC, dI)) (ci := 0) (v := .int (nI n)) (C := "UpcastStreams$Row") (T := F_Row) (N := 5) hx hb hts in_Row hown hK hP 0 rfl rfl 4 (by decide) (hts _ uw_1_57) (fun _ h9 => h9) rfl d_Row_put_1 ?_
  refine lv_aload_n hx hb d_Row_put_4 rfl (lv_at hl 0 rfl) ?_
  refine va_get (D := (dC, dI)) (ci := 0) (v := .ref t) (C := "UpcastStreams$Row") (T := F_Row) (N := 5) hx hb hts in_Row hown hK hP 0 rfl rfl 0 (by decide) (hts _ uw_1_38) (fun _ h9 => h9) rfl d_Row_put_5 ?_
  refine va_alen (v := nI M) hx hb hK hP 1 0 rfl rfl rfl d_Row_put_8 ?_
  refine lv_icmp_lt (tgt := 13) hx hb d_Row_put_9 (by decide) (fun c1 => ?_) (fun h => absurd (nI_lt (by omega) (by omega)) h)
  refine lv_aload_n hx hb d_Row_put_13 rfl (lv_at hl 0 rfl) ?_
  refine va_get (D := (dC, dI)) (ci := 0) (v := .ref t) (C := "UpcastStreams$Row") (T := F_Row) (N := 5) hx hb hts in_Row hown hK hP 0 rfl rfl 0 (by decide) (hts _ uw_1_38) (fun _ h9 => h9) rfl d_Row_put_14 ?_
  refine lv_aload_n hx hb d_Row_put_17 rfl (lv_at hl 0 rfl) ?_
  refine va_get (D := (dC, dI)) (ci := 0) (v := .int (nI n)) (C := "UpcastStreams$Row") (T := F_Row) (N := 5) hx hb hts in_Row hown hK hP 0 rfl rfl 4 (by decide) (hts _ uw_1_57) (fun _ h9 => h9) rfl d_Row_put_18 ?_
  refine lv_iload_n hx hb d_Row_put_21 rfl (lv_at hl 1 rfl) ?_
  refine us_iast (j := n) hx hb hK hP hD hS 1 0 rfl rfl (vp_in_nI (by omega) (by omega)) (nI_clamp (by omega)) d_Row_put_22 (fun H locs hP hD hS => ?_)
  have hP : va_P (dC, dI) vwCl [(h, .inr (0, [.ref t, .ref f, .ref a, .ref b, .int (nI n)])), (t, .inl (cI, M, .inl (upd T n ty))), (f, .inl (cI, M, .inl F)), (a, .inl (cI, M, .inl U)), (b, .inl (cI, M, .inl V))] H := hP
  have hD : va_D zA [(h, .inr (0, [.ref t, .ref f, .ref a, .ref b, .int (nI n)])), (t, .inl (cI, M, .inl (upd T n ty))), (f, .inl (cI, M, .inl F)), (a, .inl (cI, M, .inl U)), (b, .inl (cI, M, .inl V))] := hD
  refine lv_aload_n hx hb d_Row_put_23 rfl (lv_at hl 0 rfl) ?_
  refine va_get (D := (dC, dI)) (ci := 0) (v := .ref f) (C := "UpcastStreams$Row") (T := F_Row) (N := 5) hx hb hts in_Row hown hK hP 0 rfl rfl 1 (by decide) (hts _ uw_1_44) (fun _ h9 => h9) rfl d_Row_put_24 ?_
  refine lv_aload_n hx hb d_Row_put_27 rfl (lv_at hl 0 rfl) ?_
  refine va_get (D := (dC, dI)) (ci := 0) (v := .int (nI n)) (C := "UpcastStreams$Row") (T := F_Row) (N := 5) hx hb hts in_Row hown hK hP 0 rfl rfl 4 (by decide) (hts _ uw_1_57) (fun _ h9 => h9) rfl d_Row_put_28 ?_
  refine lv_iload_n hx hb d_Row_put_31 rfl (lv_at hl 2 rfl) ?_
  refine us_iast (j := n) hx hb hK hP hD hS 2 0 rfl rfl (vp_in_nI (by omega) (by omega)) (nI_clamp (by omega)) d_Row_put_32 (fun H locs hP hD hS => ?_)
  have hP : va_P (dC, dI) vwCl [(h, .inr (0, [.ref t, .ref f, .ref a, .ref b, .int (nI n)])), (t, .inl (cI, M, .inl (upd T n ty))), (f, .inl (cI, M, .inl (upd F n fo))), (a, .inl (cI, M, .inl U)), (b, .inl (cI, M, .inl V))] H := hP
  have hD : va_D zA [(h, .inr (0, [.ref t, .ref f, .ref a, .ref b, .int (nI n)])), (t, .inl (cI, M, .inl (upd T n ty))), (f, .inl (cI, M, .inl (upd F n fo))), (a, .inl (cI, M, .inl U)), (b, .inl (cI, M, .inl V))] := hD
  refine lv_aload_n hx hb d_Row_put_33 rfl (lv_at hl 0 rfl) ?_
  refine va_get (D := (dC, dI)) (ci := 0) (v := .ref a) (C := "UpcastStreams$Row") (T := F_Row) (N := 5) hx hb hts in_Row hown hK hP 0 rfl rfl 2 (by decide) (hts _ uw_1_47) (fun _ h9 => h9) rfl d_Row_put_34 ?_
  refine lv_aload_n hx hb d_Row_put_37 rfl (lv_at hl 0 rfl) ?_
  refine va_get (D := (dC, dI)) (ci := 0) (v := .int (nI n)) (C := "UpcastStreams$Row") (T := F_Row) (N := 5) hx hb hts in_Row hown hK hP 0 rfl rfl 4 (by decide) (hts _ uw_1_57) (fun _ h9 => h9) rfl d_Row_put_38 ?_
  refine lv_iload_n hx hb d_Row_put_41 rfl (lv_at hl 3 rfl) ?_
  refine us_iast (j := n) hx hb hK hP hD hS 3 0 rfl rfl (vp_in_nI (by omega) (by omega)) (nI_clamp (by omega)) d_Row_put_42 (fun H locs hP hD hS => ?_)
  have hP : va_P (dC, dI) vwCl [(h, .inr (0, [.ref t, .ref f, .ref a, .ref b, .int (nI n)])), (t, .inl (cI, M, .inl (upd T n ty))), (f, .inl (cI, M, .inl (upd F n fo))), (a, .inl (cI, M, .inl (upd U n x))), (b, .inl (cI, M, .inl V))] H := hP
  have hD : va_D zA [(h, .inr (0, [.ref t, .ref f, .ref a, .ref b, .int (nI n)])), (t, .inl (cI, M, .inl (upd T n ty))), (f, .inl (cI, M, .inl (upd F n fo))), (a, .inl (cI, M, .inl (upd U n x))), (b, .inl (cI, M, .inl V))] := hD
  refine lv_aload_n hx hb d_Row_put_43 rfl (lv_at hl 0 rfl) ?_
  refine va_get (D := (dC, dI)) (ci := 0) (v := .ref b) (C := "UpcastStreams$Row") (T := F_Row) (N := 5) hx hb hts in_Row hown hK hP 0 rfl rfl 3 (by decide) (hts _ uw_1_52) (fun _ h9 => h9) rfl d_Row_put_44 ?_
  refine lv_aload_n hx hb d_Row_put_47 rfl (lv_at hl 0 rfl) ?_
  refine va_get (D := (dC, dI)) (ci := 0) (v := .int (nI n)) (C := "UpcastStreams$Row") (T := F_Row) (N := 5) hx hb hts in_Row hown hK hP 0 rfl rfl 4 (by decide) (hts _ uw_1_57) (fun _ h9 => h9) rfl d_Row_put_48 ?_
  refine lv_iload hx hb d_Row_put_51 (lv_at hl 4 rfl) ?_
  refine us_iast (j := n) hx hb hK hP hD hS 4 0 rfl rfl (vp_in_nI (by omega) (by omega)) (nI_clamp (by omega)) d_Row_put_53 (fun H locs hP hD hS => ?_)
  have hP : va_P (dC, dI) vwCl [(h, .inr (0, [.ref t, .ref f, .ref a, .ref b, .int (nI n)])), (t, .inl (cI, M, .inl (upd T n ty))), (f, .inl (cI, M, .inl (upd F n fo))), (a, .inl (cI, M, .inl (upd U n x))), (b, .inl (cI, M, .inl (upd V n y)))] H := hP
  have hD : va_D zA [(h, .inr (0, [.ref t, .ref f, .ref a, .ref b, .int (nI n)])), (t, .inl (cI, M, .inl (upd T n ty))), (f, .inl (cI, M, .inl (upd F n fo))), (a, .inl (cI, M, .inl (upd U n x))), (b, .inl (cI, M, .inl (upd V n y)))] := hD
  refine lv_aload_n hx hb d_Row_put_54 rfl (lv_at hl 0 rfl) ?_
  refine lv_dup hx hb d_Row_put_55 rfl ?_
  refine va_get (D := (dC, dI)) (ci := 0) (v := .int (nI n)) (C := "UpcastStreams$Row") (T := F_Row) (N := 5) hx hb hts in_Row hown hK hP 0 rfl rfl 4 (by decide) (hts _ uw_1_57) (fun _ h9 => h9) rfl d_Row_put_56 ?_
  refine lv_iconst (v := (1 : Int32)) hx hb d_Row_put_59 (by decide) ?_
  refine lv_iadd hx hb d_Row_put_60 ?_
  refine us_top (show ((nI n) + (1 : Int32)) = (nI (n + 1)) from nI_1 n) ?_
  refine va_put (D := (dC, dI)) (ci := 0) (v := .int (nI (n + 1))) (ty := .int) (C := "UpcastStreams$Row") (T := F_Row) (N := 5) hx hb hts in_Row t_Row t_Row_ok n_Row hown hK hP hD hS 0 rfl rfl 4 (by decide) (hts _ uw_1_57) (fun _ h9 => h9) rfl (by decide +kernel) rfl rfl (Nat.le_of_ble_eq_true rfl) d_Row_put_61 (fun H locs hP hD hS => ?_)
  have hP : va_P (dC, dI) vwCl [(h, .inr (0, [.ref t, .ref f, .ref a, .ref b, .int (nI (n + 1))])), (t, .inl (cI, M, .inl (upd T n ty))), (f, .inl (cI, M, .inl (upd F n fo))), (a, .inl (cI, M, .inl (upd U n x))), (b, .inl (cI, M, .inl (upd V n y)))] H := hP
  have hD : va_D zA [(h, .inr (0, [.ref t, .ref f, .ref a, .ref b, .int (nI (n + 1))])), (t, .inl (cI, M, .inl (upd T n ty))), (f, .inl (cI, M, .inl (upd F n fo))), (a, .inl (cI, M, .inl (upd U n x))), (b, .inl (cI, M, .inl (upd V n y)))] := hD
  exact us_vret hQ (by decide) (by decide) hx hb hr hlk hK hS () rfl (by simp) hP hD d_Row_put_64

set_option maxHeartbeats 4000000 in
set_option maxRecDepth 100000 in
theorem c_Row_putFrom (zl : Launch) (dC : Nat → ClassId) (dI : Nat → Nat → Nat) (cI cL cS cR : ClassId) (h : Nat) (t : Nat) (f : Nat) (a : Nat) (b : Nat) (M : Nat) (n : Nat) (T : Nat → Int32) (F : Nat → Int32) (U : Nat → Int32) (V : Nat → Int32) (oh : Nat) (ot : Nat) (of : Nat) (oa : Nat) (ob : Nat) (oM : Nat) (on : Nat) (oT : Nat → Int32) (oF : Nat → Int32) (oU : Nat → Int32) (oV : Nat → Int32) (i : Nat) (hn : n < M) (hM : M ≤ 64) (hi : i < oM) (hoM : oM ≤ 64) : us_Met (S := Unit) zl y_Row_putFrom w_Row_putFrom ({ frames := 1, cells := 0, slots := 0, locals := 24 }) (dC, dI) vwCl (us_ty cI cL cS cR) [.ref h, .ref oh, .int (nI i)] [(h, .inr (0, [.ref t, .ref f, .ref a, .ref b, .int (nI n)])), (t, .inl (cI, M, .inl T)), (f, .inl (cI, M, .inl F)), (a, .inl (cI, M, .inl U)), (b, .inl (cI, M, .inl V)), (oh, .inr (0, [.ref ot, .ref of, .ref oa, .ref ob, .int (nI on)])), (ot, .inl (cI, oM, .inl oT)), (of, .inl (cI, oM, .inl oF)), (oa, .inl (cI, oM, .inl oU)), (ob, .inl (cI, oM, .inl oV))] (fun _ => none) (fun u => True) (fun u => [(h, .inr (0, [.ref t, .ref f, .ref a, .ref b, .int (nI (n + 1))])), (t, .inl (cI, M, .inl (upd T n (oT i)))), (f, .inl (cI, M, .inl (upd F n (oF i)))), (a, .inl (cI, M, .inl (upd U n (oU i)))), (b, .inl (cI, M, .inl (upd V n (oV i)))), (oh, .inr (0, [.ref ot, .ref of, .ref oa, .ref ob, .int (nI on)])), (ot, .inl (cI, oM, .inl oT)), (of, .inl (cI, oM, .inl oF)), (oa, .inl (cI, oM, .inl oU)), (ob, .inl (cI, oM, .inl oV))]) := by
  refine us_ofW (cc := b_Row_putFrom) (maxL := 3) (ret := none) (by decide) (Nat.le_of_ble_eq_true rfl) ?_
  intro zp ze zs zm args below meth zc zA ls zQ hQ hx hb hr hml hts hown hlk hin hl hK hP hD hS hA
  have hown : zs.vm.findClass "UpcastStreams$Row" = some zm.cls := hown
  have hl : lv_has ls 3 [(0, .ref h), (1, .ref oh), (2, .int (nI i))] := hl
  obtain ⟨H, hH⟩ : ∃ H, H = zs.heap := ⟨_, rfl⟩
  rw [← hH] at hP ⊢
  have hS : va_S zA zs.heap H [] := hH ▸ hS
  generalize ([] : List Loc) = locs at hS ⊢
  refine lv_aload_n hx hb d_Row_putFrom_0 rfl (lv_at hl 0 rfl) ?_
  refine lv_aload_n hx hb d_Row_putFrom_1 rfl (lv_at hl 1 rfl) ?_
  refine va_get (D := (dC, dI)) (ci := 0) (v := .ref ot) (C := "UpcastStreams$Row") (T := F_Row) (N := 5) hx hb hts in_Row hown hK hP 5 rfl rfl 0 (by decide) (hts _ uw_1_38) (fun _ h9 => h9) rfl d_Row_putFrom_2 ?_
  refine lv_iload_n hx hb d_Row_putFrom_5 rfl (lv_at hl 2 rfl) ?_
  refine us_iald (j := i) hx hb hK hP 6 0 rfl rfl (vp_in_nI (by omega) (by omega)) (nI_clamp (by omega)) d_Row_putFrom_6 ?_
  refine lv_aload_n hx hb d_Row_putFrom_7 rfl (lv_at hl 1 rfl) ?_
  refine va_get (D := (dC, dI)) (ci := 0) (v := .ref of) (C := "UpcastStreams$Row") (T := F_Row) (N := 5) hx hb hts in_Row hown hK hP 5 rfl rfl 1 (by decide) (hts _ uw_1_44) (fun _ h9 => h9) rfl d_Row_putFrom_8 ?_
  refine lv_iload_n hx hb d_Row_putFrom_11 rfl (lv_at hl 2 rfl) ?_
  refine us_iald (j := i) hx hb hK hP 7 0 rfl rfl (vp_in_nI (by omega) (by omega)) (nI_clamp (by omega)) d_Row_putFrom_12 ?_
  refine lv_aload_n hx hb d_Row_putFrom_13 rfl (lv_at hl 1 rfl) ?_
  refine va_get (D := (dC, dI)) (ci := 0) (v := .ref oa) (C := "UpcastStreams$Row") (T := F_Row) (N := 5) hx hb hts in_Row hown hK hP 5 rfl rfl 2 (by decide) (hts _ uw_1_47) (fun _ h9 => h9) rfl d_Row_putFrom_14 ?_
  refine lv_iload_n hx hb d_Row_putFrom_17 rfl (lv_at hl 2 rfl) ?_
  refine us_iald (j := i) hx hb hK hP 8 0 rfl rfl (vp_in_nI (by omega) (by omega)) (nI_clamp (by omega)) d_Row_putFrom_18 ?_
  refine lv_aload_n hx hb d_Row_putFrom_19 rfl (lv_at hl 1 rfl) ?_
  refine va_get (D := (dC, dI)) (ci := 0) (v := .ref ob) (C := "UpcastStreams$Row") (T := F_Row) (N := 5) hx hb hts in_Row hown hK hP 5 rfl rfl 3 (by decide) (hts _ uw_1_52) (fun _ h9 => h9) rfl d_Row_putFrom_20 ?_
  refine lv_iload_n hx hb d_Row_putFrom_23 rfl (lv_at hl 2 rfl) ?_
  refine us_iald (j := i) hx hb hK hP 9 0 rfl rfl (vp_in_nI (by omega) (by omega)) (nI_clamp (by omega)) d_Row_putFrom_24 ?_
  refine us_callV (q0 := 0) (As := [.int (oT i), .int (oF i), .int (oU i), .int (oV i)]) (rest := []) ⟨hx, hb, hml, hown, hts⟩ (c_Row_put zl dC dI cI cL cS cR h t f a b M n T F U V (oT i) (oF i) (oU i) (oV i) (by omega) (by omega)) (cwV 4 hts (us_gV uw_2_194 uw_2_12 uw_2_13 uw_1_3 k_Row_put) rfl rfl rfl h_Row_put ⟨by decide, by decide⟩) hK hP hD hS hA [0, 1, 2, 3, 4] rfl (by decide) (fun _ => Nat.le_of_ble_eq_true rfl) rfl rfl rfl hl.1 rfl (Nat.le_of_ble_eq_true rfl) d_Row_putFrom_25 ⟨by decide, by decide⟩ (fun u H locs w25 hP hD hS => ?_)
  have hP : va_P (dC, dI) vwCl [(h, .inr (0, [.ref t, .ref f, .ref a, .ref b, .int (nI (n + 1))])), (t, .inl (cI, M, .inl (upd T n (oT i)))), (f, .inl (cI, M, .inl (upd F n (oF i)))), (a, .inl (cI, M, .inl (upd U n (oU i)))), (b, .inl (cI, M, .inl (upd V n (oV i)))), (oh, .inr (0, [.ref ot, .ref of, .ref oa, .ref ob, .int (nI on)])), (ot, .inl (cI, oM, .inl oT)), (of, .inl (cI, oM, .inl oF)), (oa, .inl (cI, oM, .inl oU)), (ob, .inl (cI, oM, .inl oV))] H := hP
  have hD : va_D zA [(h, .inr (0, [.ref t, .ref f, .ref a, .ref b, .int (nI (n + 1))])), (t, .inl (cI, M, .inl (upd T n (oT i)))), (f, .inl (cI, M, .inl (upd F n (oF i)))), (a, .inl (cI, M, .inl (upd U n (oU i)))), (b, .inl (cI, M, .inl (upd V n (oV i)))), (oh, .inr (0, [.ref ot, .ref of, .ref oa, .ref ob, .int (nI on)])), (ot, .inl (cI, oM, .inl oT)), (of, .inl (cI, oM, .inl oF)), (oa, .inl (cI, oM, .inl oU)), (ob, .inl (cI, oM, .inl oV))] := hD
  try dsimp only at w25
  refine W.eq (g2 := F0 zm 28 ls []) rfl ?_
  exact us_vret hQ (by decide) (by decide) hx hb hr hlk hK hS () rfl (by simp) hP hD d_Row_putFrom_28

set_option maxHeartbeats 4000000 in
set_option maxRecDepth 100000 in
theorem c_Reader_begin (zl : Launch) (dC : Nat → ClassId) (dI : Nat → Nat → Nat) (cI cL cS cR : ClassId) (h : Nat) (c : Int32) (m : Int32) (s : Int32) (t : Int32) (x : Int32) (y : Int32) (z : Int32)  : us_Met (S := Unit) zl y_Reader_begin w_Reader_begin ({ frames := 0, cells := 0, slots := 0, locals := 0 }) (dC, dI) vwCl (us_ty cI cL cS cR) [.ref h, .int x, .int y, .int z] [(h, .inr (2, [.int c, .int m, .int s, .int t]))] (fun _ => none) (fun u => True) (fun u => [(h, .inr (2, [.int z, .int z, .int (x &&& 255), .int (y &&& 63)]))]) := by
  refine us_ofW (cc := b_Reader_begin) (maxL := 4) (ret := none) (by decide) (Nat.le_of_ble_eq_true rfl) ?_
  intro zp ze zs zm args below meth zc zA ls zQ hQ hx hb hr hml hts hown hlk hin hl hK hP hD hS hA
  have hown : zs.vm.findClass "UpcastStreams$Reader" = some zm.cls := hown
  have hl : lv_has ls 4 [(0, .ref h), (1, .int x), (2, .int y), (3, .int z)] := hl
  obtain ⟨H, hH⟩ : ∃ H, H = zs.heap := ⟨_, rfl⟩
  rw [← hH] at hP ⊢
  have hS : va_S zA zs.heap H [] := hH ▸ hS
  generalize ([] : List Loc) = locs at hS ⊢
  refine lv_aload_n hx hb d_Reader_begin_0 rfl (lv_at hl 0 rfl) ?_
  refine lv_iload_n hx hb d_Reader_begin_1 rfl (lv_at hl 1 rfl) ?_
  refine lv_sipush (v := (255 : Int32)) hx hb d_Reader_begin_2 (by decide) ?_
  refine lv_iand hx hb d_Reader_begin_5 ?_
  refine va_put (D := (dC, dI)) (ci := 2) (v := .int (x &&& (255 : Int32))) (ty := .int) (C := "UpcastStreams$Reader") (T := F_Reader) (N := 4) hx hb hts in_Reader t_Reader t_Reader_ok n_Reader hown hK hP hD hS 0 rfl rfl 2 (by decide) (hts _ uw_1_184) (fun _ h9 => h9) rfl (by decide +kernel) rfl rfl (Nat.le_of_ble_eq_true rfl) d_Reader_begin_6 (fun H locs hP hD hS => ?_)
  have hP : va_P (dC, dI) vwCl [(h, .inr (2, [.int c, .int m, .int (x &&& (255 : Int32)), .int t]))] H := hP
  have hD : va_D zA [(h, .inr (2, [.int c, .int m, .int (x &&& (255 : Int32)), .int t]))] := hD
  refine lv_aload_n hx hb d_Reader_begin_9 rfl (lv_at hl 0 rfl) ?_
  refine lv_iload_n hx hb d_Reader_begin_10 rfl (lv_at hl 2 rfl) ?_
  refine lv_bipush (v := (63 : Int32)) hx hb d_Reader_begin_11 (by decide) ?_
  refine lv_iand hx hb d_Reader_begin_13 ?_
  refine va_put (D := (dC, dI)) (ci := 2) (v := .int (y &&& (63 : Int32))) (ty := .int) (C := "UpcastStreams$Reader") (T := F_Reader) (N := 4) hx hb hts in_Reader t_Reader t_Reader_ok n_Reader hown hK hP hD hS 0 rfl rfl 3 (by decide) (hts _ uw_1_185) (fun _ h9 => h9) rfl (by decide +kernel) rfl rfl (Nat.le_of_ble_eq_true rfl) d_Reader_begin_14 (fun H locs hP hD hS => ?_)
  have hP : va_P (dC, dI) vwCl [(h, .inr (2, [.int c, .int m, .int (x &&& (255 : Int32)), .int (y &&& (63 : Int32))]))] H := hP
  have hD : va_D zA [(h, .inr (2, [.int c, .int m, .int (x &&& (255 : Int32)), .int (y &&& (63 : Int32))]))] := hD
  refine lv_aload_n hx hb d_Reader_begin_17 rfl (lv_at hl 0 rfl) ?_
  refine lv_iload_n hx hb d_Reader_begin_18 rfl (lv_at hl 3 rfl) ?_
  refine va_put (D := (dC, dI)) (ci := 2) (v := .int z) (ty := .int) (C := "UpcastStreams$Reader") (T := F_Reader) (N := 4) hx hb hts in_Reader t_Reader t_Reader_ok n_Reader hown hK hP hD hS 0 rfl rfl 0 (by decide) (hts _ uw_1_180) (fun _ h9 => h9) rfl (by decide +kernel) rfl rfl (Nat.le_of_ble_eq_true rfl) d_Reader_begin_19 (fun H locs hP hD hS => ?_)
  have hP : va_P (dC, dI) vwCl [(h, .inr (2, [.int z, .int m, .int (x &&& (255 : Int32)), .int (y &&& (63 : Int32))]))] H := hP
  have hD : va_D zA [(h, .inr (2, [.int z, .int m, .int (x &&& (255 : Int32)), .int (y &&& (63 : Int32))]))] := hD
  refine lv_aload_n hx hb d_Reader_begin_22 rfl (lv_at hl 0 rfl) ?_
  refine lv_iload_n hx hb d_Reader_begin_23 rfl (lv_at hl 3 rfl) ?_
  refine va_put (D := (dC, dI)) (ci := 2) (v := .int z) (ty := .int) (C := "UpcastStreams$Reader") (T := F_Reader) (N := 4) hx hb hts in_Reader t_Reader t_Reader_ok n_Reader hown hK hP hD hS 0 rfl rfl 1 (by decide) (hts _ uw_1_182) (fun _ h9 => h9) rfl (by decide +kernel) rfl rfl (Nat.le_of_ble_eq_true rfl) d_Reader_begin_24 (fun H locs hP hD hS => ?_)
  have hP : va_P (dC, dI) vwCl [(h, .inr (2, [.int z, .int z, .int (x &&& (255 : Int32)), .int (y &&& (63 : Int32))]))] H := hP
  have hD : va_D zA [(h, .inr (2, [.int z, .int z, .int (x &&& (255 : Int32)), .int (y &&& (63 : Int32))]))] := hD
  exact us_vret hQ (by decide) (by decide) hx hb hr hlk hK hS () rfl (by simp) hP hD d_Reader_begin_27

set_option maxHeartbeats 4000000 in
set_option maxRecDepth 100000 in
theorem c_Reader_wantsStream (zl : Launch) (dC : Nat → ClassId) (dI : Nat → Nat → Nat) (cI cL cS cR : ClassId) (h : Nat) (c : Int32) (m : Int32) (s : Int32) (t : Int32) (x : Int32)  : us_Met (S := Int32) zl y_Reader_wantsStream w_Reader_wantsStream ({ frames := 0, cells := 0, slots := 0, locals := 0 }) (dC, dI) vwCl (us_ty cI cL cS cR) [.ref h, .int x] [(h, .inr (2, [.int c, .int m, .int s, .int t]))] (fun u => some (.int u)) (fun u => u = us_b (decide (s >>> (x &&& 31) &&& 1 = 1))) (fun u => [(h, .inr (2, [.int c, .int m, .int s, .int t]))]) := by
  refine us_ofW (cc := b_Reader_wantsStream) (maxL := 2) (ret := (some .boolean)) (by decide) (Nat.le_of_ble_eq_true rfl) ?_
  intro zp ze zs zm args below meth zc zA ls zQ hQ hx hb hr hml hts hown hlk hin hl hK hP hD hS hA
  have hown : zs.vm.findClass "UpcastStreams$Reader" = some zm.cls := hown
  have hl : lv_has ls 2 [(0, .ref h), (1, .int x)] := hl
  obtain ⟨H, hH⟩ : ∃ H, H = zs.heap := ⟨_, rfl⟩
  rw [← hH] at hP ⊢
  have hS : va_S zA zs.heap H [] := hH ▸ hS
  generalize ([] : List Loc) = locs at hS ⊢
  refine lv_aload_n hx hb d_Reader_wantsStream_0 rfl (lv_at hl 0 rfl) ?_
  refine va_get (D := (dC, dI)) (ci := 2) (v := .int s) (C := "UpcastStreams$Reader") (T := F_Reader) (N := 4) hx hb hts in_Reader hown hK hP 0 rfl rfl 2 (by decide) (hts _ uw_1_184) (fun _ h9 => h9) rfl d_Reader_wantsStream_1 ?_
  refine lv_iload_n hx hb d_Reader_wantsStream_4 rfl (lv_at hl 1 rfl) ?_
  refine lv_ishr hx hb d_Reader_wantsStream_5 ?_
  refine lv_iconst (v := (1 : Int32)) hx hb d_Reader_wantsStream_6 (by decide) ?_
  refine lv_iand hx hb d_Reader_wantsStream_7 ?_
  refine lv_iconst (v := (1 : Int32)) hx hb d_Reader_wantsStream_8 (by decide) ?_
  refine lv_icmp_ne (tgt := 16) hx hb d_Reader_wantsStream_9 (by decide) (fun c1 => ?_) (fun c1 => ?_)
  · refine lv_iconst (v := (0 : Int32)) hx hb d_Reader_wantsStream_16 (by decide) ?_
    exact us_zret hQ (by decide) (by decide) hx hb hr hlk hK hS (0 : Int32) (by decide) rfl (by simp_all [us_b]) hP hD d_Reader_wantsStream_17
  · refine lv_iconst (v := (1 : Int32)) hx hb d_Reader_wantsStream_12 (by decide) ?_
    refine lv_goto (tgt := 17) hx hb d_Reader_wantsStream_13 (by decide) ?_
    exact us_zret hQ (by decide) (by decide) hx hb hr hlk hK hS (1 : Int32) (by decide) rfl (by simp_all [us_b]) hP hD d_Reader_wantsStream_17

set_option maxHeartbeats 4000000 in
set_option maxRecDepth 100000 in
theorem c_Reader_wantsType (zl : Launch) (dC : Nat → ClassId) (dI : Nat → Nat → Nat) (cI cL cS cR : ClassId) (h : Nat) (c : Int32) (m : Int32) (s : Int32) (t : Int32) (x : Int32)  : us_Met (S := Int32) zl y_Reader_wantsType w_Reader_wantsType ({ frames := 0, cells := 0, slots := 0, locals := 0 }) (dC, dI) vwCl (us_ty cI cL cS cR) [.ref h, .int x] [(h, .inr (2, [.int c, .int m, .int s, .int t]))] (fun u => some (.int u)) (fun u => u = us_b (decide (t >>> (x &&& 31) &&& 1 = 1))) (fun u => [(h, .inr (2, [.int c, .int m, .int s, .int t]))]) := by
  refine us_ofW (cc := b_Reader_wantsType) (maxL := 2) (ret := (some .boolean)) (by decide) (Nat.le_of_ble_eq_true rfl) ?_
  intro zp ze zs zm args below meth zc zA ls zQ hQ hx hb hr hml hts hown hlk hin hl hK hP hD hS hA
  have hown : zs.vm.findClass "UpcastStreams$Reader" = some zm.cls := hown
  have hl : lv_has ls 2 [(0, .ref h), (1, .int x)] := hl
  obtain ⟨H, hH⟩ : ∃ H, H = zs.heap := ⟨_, rfl⟩
  rw [← hH] at hP ⊢
  have hS : va_S zA zs.heap H [] := hH ▸ hS
  generalize ([] : List Loc) = locs at hS ⊢
  refine lv_aload_n hx hb d_Reader_wantsType_0 rfl (lv_at hl 0 rfl) ?_
  refine va_get (D := (dC, dI)) (ci := 2) (v := .int t) (C := "UpcastStreams$Reader") (T := F_Reader) (N := 4) hx hb hts in_Reader hown hK hP 0 rfl rfl 3 (by decide) (hts _ uw_1_185) (fun _ h9 => h9) rfl d_Reader_wantsType_1 ?_
  refine lv_iload_n hx hb d_Reader_wantsType_4 rfl (lv_at hl 1 rfl) ?_
  refine lv_ishr hx hb d_Reader_wantsType_5 ?_
  refine lv_iconst (v := (1 : Int32)) hx hb d_Reader_wantsType_6 (by decide) ?_
  refine lv_iand hx hb d_Reader_wantsType_7 ?_
  refine lv_iconst (v := (1 : Int32)) hx hb d_Reader_wantsType_8 (by decide) ?_
  refine lv_icmp_ne (tgt := 16) hx hb d_Reader_wantsType_9 (by decide) (fun c1 => ?_) (fun c1 => ?_)
  · refine lv_iconst (v := (0 : Int32)) hx hb d_Reader_wantsType_16 (by decide) ?_
    exact us_zret hQ (by decide) (by decide) hx hb hr hlk hK hS (0 : Int32) (by decide) rfl (by simp_all [us_b]) hP hD d_Reader_wantsType_17
  · refine lv_iconst (v := (1 : Int32)) hx hb d_Reader_wantsType_12 (by decide) ?_
    refine lv_goto (tgt := 17) hx hb d_Reader_wantsType_13 (by decide) ?_
    exact us_zret hQ (by decide) (by decide) hx hb hr hlk hK hS (1 : Int32) (by decide) rfl (by simp_all [us_b]) hP hD d_Reader_wantsType_17

set_option maxHeartbeats 4000000 in
set_option maxRecDepth 100000 in
theorem c_Reader_moveToMark (zl : Launch) (dC : Nat → ClassId) (dI : Nat → Nat → Nat) (cI cL cS cR : ClassId) (h : Nat) (c : Int32) (m : Int32) (s : Int32) (t : Int32)  : us_Met (S := Int32) zl y_Reader_moveToMark w_Reader_moveToMark ({ frames := 0, cells := 0, slots := 0, locals := 0 }) (dC, dI) vwCl (us_ty cI cL cS cR) [.ref h] [(h, .inr (2, [.int c, .int m, .int s, .int t]))] (fun u => some (.int u)) (fun u => u = m - c) (fun u => [(h, .inr (2, [.int m, .int m, .int s, .int t]))]) := by
  refine us_ofW (cc := b_Reader_moveToMark) (maxL := 2) (ret := (some .int)) (by decide) (Nat.le_of_ble_eq_true rfl) ?_
  intro zp ze zs zm args below meth zc zA ls zQ hQ hx hb hr hml hts hown hlk hin hl hK hP hD hS hA
  have hown : zs.vm.findClass "UpcastStreams$Reader" = some zm.cls := hown
  have hl : lv_has ls 2 [(0, .ref h)] := hl
  obtain ⟨H, hH⟩ : ∃ H, H = zs.heap := ⟨_, rfl⟩
  rw [← hH] at hP ⊢
  have hS : va_S zA zs.heap H [] := hH ▸ hS
  generalize ([] : List Loc) = locs at hS ⊢
  refine lv_aload_n hx hb d_Reader_moveToMark_0 rfl (lv_at hl 0 rfl) ?_
  refine va_get (D := (dC, dI)) (ci := 2) (v := .int m) (C := "UpcastStreams$Reader") (T := F_Reader) (N := 4) hx hb hts in_Reader hown hK hP 0 rfl rfl 1 (by decide) (hts _ uw_1_182) (fun _ h9 => h9) rfl d_Reader_moveToMark_1 ?_
  refine lv_aload_n hx hb d_Reader_moveToMark_4 rfl (lv_at hl 0 rfl) ?_
  refine va_get (D := (dC, dI)) (ci := 2) (v := .int c) (C := "UpcastStreams$Reader") (T := F_Reader) (N := 4) hx hb hts in_Reader hown hK hP 0 rfl rfl 0 (by decide) (hts _ uw_1_180) (fun _ h9 => h9) rfl d_Reader_moveToMark_5 ?_
  refine lv_isub hx hb d_Reader_moveToMark_8 ?_
  refine lv_istore_n (lv' := [(1, .int (m - c)), (0, .ref h)]) hx hb d_Reader_moveToMark_9 rfl hl (by decide) rfl (fun ls hl => ?_)
  refine lv_aload_n hx hb d_Reader_moveToMark_10 rfl (lv_at hl 1 rfl) ?_
  refine lv_aload_n hx hb d_Reader_moveToMark_11 rfl (lv_at hl 1 rfl) ?_
  refine va_get (D := (dC, dI)) (ci := 2) (v := .int m) (C := "UpcastStreams$Reader") (T := F_Reader) (N := 4) hx hb hts in_Reader hown hK hP 0 rfl rfl 1 (by decide) (hts _ uw_1_182) (fun _ h9 => h9) rfl d_Reader_moveToMark_12 ?_
  refine va_put (D := (dC, dI)) (ci := 2) (v := .int m) (ty := .int) (C := "UpcastStreams$Reader") (T := F_Reader) (N := 4) hx hb hts in_Reader t_Reader t_Reader_ok n_Reader hown hK hP hD hS 0 rfl rfl 0 (by decide) (hts _ uw_1_180) (fun _ h9 => h9) rfl (by decide +kernel) rfl rfl (Nat.le_of_ble_eq_true rfl) d_Reader_moveToMark_15 (fun H locs hP hD hS => ?_)
  have hP : va_P (dC, dI) vwCl [(h, .inr (2, [.int m, .int m, .int s, .int t]))] H := hP
  have hD : va_D zA [(h, .inr (2, [.int m, .int m, .int s, .int t]))] := hD
  refine lv_iload_n hx hb d_Reader_moveToMark_18 rfl (lv_at hl 0 rfl) ?_
  exact us_iret hQ (by decide) (by decide) hx hb hr hlk hK hS (m - c) rfl (rfl) hP hD d_Reader_moveToMark_19
