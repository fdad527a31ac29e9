set_option maxHeartbeats 4000000 in
set_option maxRecDepth 100000 in
theorem c_Row_init4 (zl : Launch) (dC : Nat → ClassId) (dI : Nat → Nat → Nat) (cI cL cS cR : ClassId) (zh : Nat)  : us_Met (S := Nat × Nat × Nat × Nat) zl y_Row_init w_Row_init ({ frames := 1, cells := 4, slots := 16, locals := 24 }) (dC, dI) vwCl (us_ty cI cL cS cR) [.ref zh, .int (4 : Int32)] [(zh, .inr (0, [.null, .null, .null, .null, .int (0 : Int32)]))] (fun _ => none) (fun u => True) (fun u => [(zh, .inr (0, [.ref u.1, .ref u.2.1, .ref u.2.2.1, .ref u.2.2.2, .int (nI 0)])), (u.1, .inl (cI, 4, .inl (fun _ => 0))), (u.2.1, .inl (cI, 4, .inl (fun _ => 0))), (u.2.2.1, .inl (cI, 4, .inl (fun _ => 0))), (u.2.2.2, .inl (cI, 4, .inl (fun _ => 0)))]) := by
  refine us_ofW (cc := b_Row_init) (maxL := 2) (ret := none) (by decide) (Nat.le_of_ble_eq_true rfl) ?_
  intro zp ze zs zm args below meth zc zA ls zQ hQ hx hb hr hml hts hown hlk hin hl hK hP hD hS hA
  have hown : zs.vm.findClass "UpcastStreams$Row" = some zm.cls := hown
  have hl : lv_has ls 2 [(0, .ref zh), (1, .int (4 : Int32))] := hl
  obtain ⟨H, hH⟩ : ∃ H, H = zs.heap := ⟨_, rfl⟩
  rw [← hH] at hP ⊢
  have hS : va_S zA zs.heap H [] := hH ▸ hS
  generalize ([] : List Loc) = locs at hS ⊢
  refine lv_aload_n hx hb d_Row_init_0 rfl (lv_at hl 0 rfl) ?_
  refine W.objInit hx hb hown (hts _ (us_m1 37 rfl (by decide))) (hts _ (us_m1 24 rfl (by decide))) (hts _ (us_m1 25 rfl (by decide))) rfl (by rw [hml]; exact hl.1) rfl d_Row_init_1 (Nat.le_of_ble_eq_true rfl) (Nat.le_of_ble_eq_true rfl) ?_
  refine W.eq (g2 := F0 zm 4 ls []) rfl ?_
  refine lv_aload_n hx hb d_Row_init_4 rfl (lv_at hl 0 rfl) ?_
  refine lv_iload_n hx hb d_Row_init_5 rfl (lv_at hl 1 rfl) ?_
  refine us_newa (t0 := 0) (a0 := (4, .inl (fun _ => 0))) (ty := .int) (atype := .int) hx hb (hts _ uw_1_74) rfl hK hP hD hS hA rfl (fun _ => rfl) (by decide) (by decide) (by decide) (by decide) (by decide) d_Row_init_6 (fun q6 H hP hD hS => ?_)
  have hP : va_P (dC, dI) vwCl [(zh, .inr (0, [.null, .null, .null, .null, .int (0 : Int32)])), (q6, .inl (cI, 4, .inl (fun _ => 0)))] H := hP
  have hD : va_D zA [(zh, .inr (0, [.null, .null, .null, .null, .int (0 : Int32)])), (q6, .inl (cI, 4, .inl (fun _ => 0)))] := hD
  refine W.widen (k := 1) (n := 4) (by decide) (by decide) ?_
  refine W.eq (g2 := F0 zm 8 ls [.ref q6, .ref zh]) rfl ?_
  refine va_putF (D := (dC, dI)) (ci := 0) (v := .ref q6) (ty := (.array .int)) (C := "UpcastStreams$Row") (T := F_Row) (N := 5) hx hb hts in_Row t_Row t_Row_ok n_Row hown hK hP hD hS 0 rfl rfl 0 (by decide) (hts _ uw_1_38) (fun _ h9 => h9) rfl hin rfl (by decide +kernel) rfl rfl (Nat.le_of_ble_eq_true rfl) d_Row_init_8 (fun H locs hP hD hS => ?_)
  have hP : va_P (dC, dI) vwCl [(zh, .inr (0, [.ref q6, .null, .null, .null, .int (0 : Int32)])), (q6, .inl (cI, 4, .inl (fun _ => 0)))] H := hP
  have hD : va_D zA [(zh, .inr (0, [.ref q6, .null, .null, .null, .int (0 : Int32)])), (q6, .inl (cI, 4, .inl (fun _ => 0)))] := hD
  refine lv_aload_n hx hb d_Row_init_11 rfl (lv_at hl 0 rfl) ?_
  refine lv_iload_n hx hb d_Row_init_12 rfl (lv_at hl 1 rfl) ?_
  refine us_newa (t0 := 0) (a0 := (4, .inl (fun _ => 0))) (ty := .int) (atype := .int) hx hb (hts _ uw_1_74) rfl hK hP hD hS hA rfl (fun _ => rfl) (by decide) (by decide) (by decide) (by decide) (by decide) d_Row_init_13 (fun q13 H hP hD hS => ?_)
  have hP : va_P (dC, dI) vwCl [(zh, .inr (0, [.ref q6, .null, .null, .null, .int (0 : Int32)])), (q6, .inl (cI, 4, .inl (fun _ => 0))), (q13, .inl (cI, 4, .inl (fun _ => 0)))] H := hP
  have hD : va_D zA [(zh, .inr (0, [.ref q6, .null, .null, .null, .int (0 : Int32)])), (q6, .inl (cI, 4, .inl (fun _ => 0))), (q13, .inl (cI, 4, .inl (fun _ => 0)))] := hD
  refine W.widen (k := 2) (n := 8) (by decide) (by decide) ?_
  refine W.eq (g2 := F0 zm 15 ls [.ref q13, .ref zh]) rfl ?_
  refine va_putF (D := (dC, dI)) (ci := 0) (v := .ref q13) (ty := (.array .int)) (C := "UpcastStreams$Row") (T := F_Row) (N := 5) hx hb hts in_Row t_Row t_Row_ok n_Row hown hK hP hD hS 0 rfl rfl 1 (by decide) (hts _ uw_1_44) (fun _ h9 => h9) rfl hin rfl (by decide +kernel) rfl rfl (Nat.le_of_ble_eq_true rfl) d_Row_init_15 (fun H locs hP hD hS => ?_)
  have hP : va_P (dC, dI) vwCl [(zh, .inr (0, [.ref q6, .ref q13, .null, .null, .int (0 : Int32)])), (q6, .inl (cI, 4, .inl (fun _ => 0))), (q13, .inl (cI, 4, .inl (fun _ => 0)))] H := hP
  have hD : va_D zA [(zh, .inr (0, [.ref q6, .ref q13, .null, .null, .int (0 : Int32)])), (q6, .inl (cI, 4, .inl (fun _ => 0))), (q13, .inl (cI, 4, .inl (fun _ => 0)))] := hD
  refine lv_aload_n hx hb d_Row_init_18 rfl (lv_at hl 0 rfl) ?_
  refine lv_iload_n hx hb d_Row_init_19 rfl (lv_at hl 1 rfl) ?_
  refine us_newa (t0 := 0) (a0 := (4, .inl (fun _ => 0))) (ty := .int) (atype := .int) hx hb (hts _ uw_1_74) rfl hK hP hD hS hA rfl (fun _ => rfl) (by decide) (by decide) (by decide) (by decide) (by decide) d_Row_init_20 (fun q20 H hP hD hS => ?_)
  have hP : va_P (dC, dI) vwCl [(zh, .inr (0, [.ref q6, .ref q13, .null, .null, .int (0 : Int32)])), (q6, .inl (cI, 4, .inl (fun _ => 0))), (q13, .inl (cI, 4, .inl (fun _ => 0))), (q20, .inl (cI, 4, .inl (fun _ => 0)))] H := hP
  have hD : va_D zA [(zh, .inr (0, [.ref q6, .ref q13, .null, .null, .int (0 : Int32)])), (q6, .inl (cI, 4, .inl (fun _ => 0))), (q13, .inl (cI, 4, .inl (fun _ => 0))), (q20, .inl (cI, 4, .inl (fun _ => 0)))] := hD
  refine W.widen (k := 3) (n := 12) (by decide) (by decide) ?_
  refine W.eq (g2 := F0 zm 22 ls [.ref q20, .ref zh]) rfl ?_
  refine va_putF (D := (dC, dI)) (ci := 0) (v := .ref q20) (ty := (.array .int)) (C := "UpcastStreams$Row") (T := F_Row) (N := 5) hx hb hts in_Row t_Row t_Row_ok n_Row hown hK hP hD hS 0 rfl rfl 2 (by decide) (hts _ uw_1_47) (fun _ h9 => h9) rfl hin rfl (by decide +kernel) rfl rfl (Nat.le_of_ble_eq_true rfl) d_Row_init_22 (fun H locs hP hD hS => ?_)
  have hP : va_P (dC, dI) vwCl [(zh, .inr (0, [.ref q6, .ref q13, .ref q20, .null, .int (0 : Int32)])), (q6, .inl (cI, 4, .inl (fun _ => 0))), (q13, .inl (cI, 4, .inl (fun _ => 0))), (q20, .inl (cI, 4, .inl (fun _ => 0)))] H := hP
  have hD : va_D zA [(zh, .inr (0, [.ref q6, .ref q13, .ref q20, .null, .int (0 : Int32)])), (q6, .inl (cI, 4, .inl (fun _ => 0))), (q13, .inl (cI, 4, .inl (fun _ => 0))), (q20, .inl (cI, 4, .inl (fun _ => 0)))] := hD
  refine lv_aload_n hx hb d_Row_init_25 rfl (lv_at hl 0 rfl) ?_
  refine lv_iload_n hx hb d_Row_init_26 rfl (lv_at hl 1 rfl) ?_
  refine us_newa (t0 := 0) (a0 := (4, .inl (fun _ => 0))) (ty := .int) (atype := .int) hx hb (hts _ uw_1_74) rfl hK hP hD hS hA rfl (fun _ => rfl) (by decide) (by decide) (by decide) (by decide) (by decide) d_Row_init_27 (fun q27 H hP hD hS => ?_)
  have hP : va_P (dC, dI) vwCl [(zh, .inr (0, [.ref q6, .ref q13, .ref q20, .null, .int (0 : Int32)])), (q6, .inl (cI, 4, .inl (fun _ => 0))), (q13, .inl (cI, 4, .inl (fun _ => 0))), (q20, .inl (cI, 4, .inl (fun _ => 0))), (q27, .inl (cI, 4, .inl (fun _ => 0)))] H := hP
  have hD : va_D zA [(zh, .inr (0, [.ref q6, .ref q13, .ref q20, .null, .int (0 : Int32)])), (q6, .inl (cI, 4, .inl (fun _ => 0))), (q13, .inl (cI, 4, .inl (fun _ => 0))), (q20, .inl (cI, 4, .inl (fun _ => 0))), (q27, .inl (cI, 4, .inl (fun _ => 0)))] := hD
  refine W.widen (k := 4) (n := 16) (by decide) (by decide) ?_
  refine W.eq (g2 := F0 zm 29 ls [.ref q27, .ref zh]) rfl ?_
  refine va_putF (D := (dC, dI)) (ci := 0) (v := .ref q27) (ty := (.array .int)) (C := "UpcastStreams$Row") (T := F_Row) (N := 5) hx hb hts in_Row t_Row t_Row_ok n_Row hown hK hP hD hS 0 rfl rfl 3 (by decide) (hts _ uw_1_52) (fun _ h9 => h9) rfl hin rfl (by decide +kernel) rfl rfl (Nat.le_of_ble_eq_true rfl) d_Row_init_29 (fun H locs hP hD hS => ?_)
  have hP : va_P (dC, dI) vwCl [(zh, .inr (0, [.ref q6, .ref q13, .ref q20, .ref q27, .int (0 : Int32)])), (q6, .inl (cI, 4, .inl (fun _ => 0))), (q13, .inl (cI, 4, .inl (fun _ => 0))), (q20, .inl (cI, 4, .inl (fun _ => 0))), (q27, .inl (cI, 4, .inl (fun _ => 0)))] H := hP
  have hD : va_D zA [(zh, .inr (0, [.ref q6, .ref q13, .ref q20, .ref q27, .int (0 : Int32)])), (q6, .inl (cI, 4, .inl (fun _ => 0))), (q13, .inl (cI, 4, .inl (fun _ => 0))), (q20, .inl (cI, 4, .inl (fun _ => 0))), (q27, .inl (cI, 4, .inl (fun _ => 0)))] := hD
  exact us_vret hQ (by decide) (by decide) hx hb hr hlk hK hS (q6, q13, q20, q27) rfl (by simp) hP hD d_Row_init_32

set_option maxHeartbeats 4000000 in
set_option maxRecDepth 100000 in
theorem c_Row_init16 (zl : Launch) (dC : Nat → ClassId) (dI : Nat → Nat → Nat) (cI cL cS cR : ClassId) (zh : Nat)  : us_Met (S := Nat × Nat × Nat × Nat) zl y_Row_init w_Row_init ({ frames := 1, cells := 4, slots := 64, locals := 24 }) (dC, dI) vwCl (us_ty cI cL cS cR) [.ref zh, .int (16 : Int32)] [(zh, .inr (0, [.null, .null, .null, .null, .int (0 : Int32)]))] (fun _ => none) (fun u => True) (fun u => [(zh, .inr (0, [.ref u.1, .ref u.2.1, .ref u.2.2.1, .ref u.2.2.2, .int (nI 0)])), (u.1, .inl (cI, 16, .inl (fun _ => 0))), (u.2.1, .inl (cI, 16, .inl (fun _ => 0))), (u.2.2.1, .inl (cI, 16, .inl (fun _ => 0))), (u.2.2.2, .inl (cI, 16, .inl (fun _ => 0)))]) := by
  refine us_ofW (cc := b_Row_init) (maxL := 2) (ret := none) (by decide) (Nat.le_of_ble_eq_true rfl) ?_
  intro zp ze zs zm args below meth zc zA ls zQ hQ hx hb hr hml hts hown hlk hin hl hK hP hD hS hA
  have hown : zs.vm.findClass "UpcastStreams$Row" = some zm.cls := hown
  have hl : lv_has ls 2 [(0, .ref zh), (1, .int (16 : Int32))] := hl
  obtain ⟨H, hH⟩ : ∃ H, H = zs.heap := ⟨_, rfl⟩
  rw [← hH] at hP ⊢
  have hS : va_S zA zs.heap H [] := hH ▸ hS
  generalize ([] : List Loc) = locs at hS ⊢
  refine lv_aload_n hx hb d_Row_init_0 rfl (lv_at hl 0 rfl) ?_
  refine W.objInit hx hb hown (hts _ (us_m1 37 rfl (by decide))) (hts _ (us_m1 24 rfl (by decide))) (hts _ (us_m1 25 rfl (by decide))) rfl (by rw [hml]; exact hl.1) rfl d_Row_init_1 (Nat.le_of_ble_eq_true rfl) (Nat.le_of_ble_eq_true rfl) ?_
  refine W.eq (g2 := F0 zm 4 ls []) rfl ?_
  refine lv_aload_n hx hb d_Row_init_4 rfl (lv_at hl 0 rfl) ?_
  refine lv_iload_n hx hb d_Row_init_5 rfl (lv_at hl 1 rfl) ?_
  refine us_newa (t0 := 0) (a0 := (16, .inl (fun _ => 0))) (ty := .int) (atype := .int) hx hb (hts _ uw_1_74) rfl hK hP hD hS hA rfl (fun _ => rfl) (by decide) (by decide) (by decide) (by decide) (by decide) d_Row_init_6 (fun q6 H hP hD hS => ?_)
  have hP : va_P (dC, dI) vwCl [(zh, .inr (0, [.null, .null, .null, .null, .int (0 : Int32)])), (q6, .inl (cI, 16, .inl (fun _ => 0)))] H := hP
  have hD : va_D zA [(zh, .inr (0, [.null, .null, .null, .null, .int (0 : Int32)])), (q6, .inl (cI, 16, .inl (fun _ => 0)))] := hD
  refine W.widen (k := 1) (n := 16) (by decide) (by decide) ?_
  refine W.eq (g2 := F0 zm 8 ls [.ref q6, .ref zh]) rfl ?_
  refine va_putF (D := (dC, dI)) (ci := 0) (v := .ref q6) (ty := (.array .int)) (C := "UpcastStreams$Row") (T := F_Row) (N := 5) hx hb hts in_Row t_Row t_Row_ok n_Row hown hK hP hD hS 0 rfl rfl 0 (by decide) (hts _ uw_1_38) (fun _ h9 => h9) rfl hin rfl (by decide +kernel) rfl rfl (Nat.le_of_ble_eq_true rfl) d_Row_init_8 (fun H locs hP hD hS => ?_)
  have hP : va_P (dC, dI) vwCl [(zh, .inr (0, [.ref q6, .null, .null, .null, .int (0 : Int32)])), (q6, .inl (cI, 16, .inl (fun _ => 0)))] H := hP
  have hD : va_D zA [(zh, .inr (0, [.ref q6, .null, .null, .null, .int (0 : Int32)])), (q6, .inl (cI, 16, .inl (fun _ => 0)))] := hD
  refine lv_aload_n hx hb d_Row_init_11 rfl (lv_at hl 0 rfl) ?_
  refine lv_iload_n hx hb d_Row_init_12 rfl (lv_at hl 1 rfl) ?_
  refine us_newa (t0 := 0) (a0 := (16, .inl (fun _ => 0))) (ty := .int) (atype := .int) hx hb (hts _ uw_1_74) rfl hK hP hD hS hA rfl (fun _ => rfl) (by decide) (by decide) (by decide) (by decide) (by decide) d_Row_init_13 (fun q13 H hP hD hS => ?_)
  have hP : va_P (dC, dI) vwCl [(zh, .inr (0, [.ref q6, .null, .null, .null, .int (0 : Int32)])), (q6, .inl (cI, 16, .inl (fun _ => 0))), (q13, .inl (cI, 16, .inl (fun _ => 0)))] H := hP
  have hD : va_D zA [(zh, .inr (0, [.ref q6, .null, .null, .null, .int (0 : Int32)])), (q6, .inl (cI, 16, .inl (fun _ => 0))), (q13, .inl (cI, 16, .inl (fun _ => 0)))] := hD
  refine W.widen (k := 2) (n := 32) (by decide) (by decide) ?_
  refine W.eq (g2 := F0 zm 15 ls [.ref q13, .ref zh]) rfl ?_
  refine va_putF (D := (dC, dI)) (ci := 0) (v := .ref q13) (ty := (.array .int)) (C := "UpcastStreams$Row") (T := F_Row) (N := 5) hx hb hts in_Row t_Row t_Row_ok n_Row hown hK hP hD hS 0 rfl rfl 1 (by decide) (hts _ uw_1_44) (fun _ h9 => h9) rfl hin rfl (by decide +kernel) rfl rfl (Nat.le_of_ble_eq_true rfl) d_Row_init_15 (fun H locs hP hD hS => ?_)
  have hP : va_P (dC, dI) vwCl [(zh, .inr (0, [.ref q6, .ref q13, .null, .null, .int (0 : Int32)])), (q6, .inl (cI, 16, .inl (fun _ => 0))), (q13, .inl (cI, 16, .inl (fun _ => 0)))] H := hP
  have hD : va_D zA [(zh, .inr (0, [.ref q6, .ref q13, .null, .null, .int (0 : Int32)])), (q6, .inl (cI, 16, .inl (fun _ => 0))), (q13, .inl (cI, 16, .inl (fun _ => 0)))] := hD
  refine lv_aload_n hx hb d_Row_init_18 rfl (lv_at hl 0 rfl) ?_
  refine lv_iload_n hx hb d_Row_init_19 rfl (lv_at hl 1 rfl) ?_
  refine us_newa (t0 := 0) (a0 := (16, .inl (fun _ => 0))) (ty := .int) (atype := .int) hx hb (hts _ uw_1_74) rfl hK hP hD hS hA rfl (fun _ => rfl) (by decide) (by decide) (by decide) (by decide) (by decide) d_Row_init_20 (fun q20 H hP hD hS => ?_)
  have hP : va_P (dC, dI) vwCl [(zh, .inr (0, [.ref q6, .ref q13, .null, .null, .int (0 : Int32)])), (q6, .inl (cI, 16, .inl (fun _ => 0))), (q13, .inl (cI, 16, .inl (fun _ => 0))), (q20, .inl (cI, 16, .inl (fun _ => 0)))] H := hP
  have hD : va_D zA [(zh, .inr (0, [.ref q6, .ref q13, .null, .null, .int (0 : Int32)])), (q6, .inl (cI, 16, .inl (fun _ => 0))), (q13, .inl (cI, 16, .inl (fun _ => 0))), (q20, .inl (cI, 16, .inl (fun _ => 0)))] := hD
  refine W.widen (k := 3) (n := 48) (by decide) (by decide) ?_
  refine W.eq (g2 := F0 zm 22 ls [.ref q20, .ref zh]) rfl ?_
  refine va_putF (D := (dC, dI)) (ci := 0) (v := .ref q20) (ty := (.array .int)) (C := "UpcastStreams$Row") (T := F_Row) (N := 5) hx hb hts in_Row t_Row t_Row_ok n_Row hown hK hP hD hS 0 rfl rfl 2 (by decide) (hts _ uw_1_47) (fun _ h9 => h9) rfl hin rfl (by decide +kernel) rfl rfl (Nat.le_of_ble_eq_true rfl) d_Row_init_22 (fun H locs hP hD hS => ?_)
  have hP : va_P (dC, dI) vwCl [(zh, .inr (0, [.ref q6, .ref q13, .ref q20, .null, .int (0 : Int32)])), (q6, .inl (cI, 16, .inl (fun _ => 0))), (q13, .inl (cI, 16, .inl (fun _ => 0))), (q20, .inl (cI, 16, .inl (fun _ => 0)))] H := hP
  have hD : va_D zA [(zh, .inr (0, [.ref q6, .ref q13, .ref q20, .null, .int (0 : Int32)])), (q6, .inl (cI, 16, .inl (fun _ => 0))), (q13, .inl (cI, 16, .inl (fun _ => 0))), (q20, .inl (cI, 16, .inl (fun _ => 0)))] := hD
  refine lv_aload_n hx hb d_Row_init_25 rfl (lv_at hl 0 rfl) ?_
  refine lv_iload_n hx hb d_Row_init_26 rfl (lv_at hl 1 rfl) ?_
  refine us_newa (t0 := 0) (a0 := (16, .inl (fun _ => 0))) (ty := .int) (atype := .int) hx hb (hts _ uw_1_74) rfl hK hP hD hS hA rfl (fun _ => rfl) (by decide) (by decide) (by decide) (by decide) (by decide) d_Row_init_27 (fun q27 H hP hD hS => ?_)
  have hP : va_P (dC, dI) vwCl [(zh, .inr (0, [.ref q6, .ref q13, .ref q20, .null, .int (0 : Int32)])), (q6, .inl (cI, 16, .inl (fun _ => 0))), (q13, .inl (cI, 16, .inl (fun _ => 0))), (q20, .inl (cI, 16, .inl (fun _ => 0))), (q27, .inl (cI, 16, .inl (fun _ => 0)))] H := hP
  have hD : va_D zA [(zh, .inr (0, [.ref q6, .ref q13, .ref q20, .null, .int (0 : Int32)])), (q6, .inl (cI, 16, .inl (fun _ => 0))), (q13, .inl (cI, 16, .inl (fun _ => 0))), (q20, .inl (cI, 16, .inl (fun _ => 0))), (q27, .inl (cI, 16, .inl (fun _ => 0)))] := hD
  refine W.widen (k := 4) (n := 64) (by decide) (by decide) ?_
  refine W.eq (g2 := F0 zm 29 ls [.ref q27, .ref zh]) rfl ?_
  refine va_putF (D := (dC, dI)) (ci := 0) (v := .ref q27) (ty := (.array .int)) (C := "UpcastStreams$Row") (T := F_Row) (N := 5) hx hb hts in_Row t_Row t_Row_ok n_Row hown hK hP hD hS 0 rfl rfl 3 (by decide) (hts _ uw_1_52) (fun _ h9 => h9) rfl hin rfl (by decide +kernel) rfl rfl (Nat.le_of_ble_eq_true rfl) d_Row_init_29 (fun H locs hP hD hS => ?_)
  have hP : va_P (dC, dI) vwCl [(zh, .inr (0, [.ref q6, .ref q13, .ref q20, .ref q27, .int (0 : Int32)])), (q6, .inl (cI, 16, .inl (fun _ => 0))), (q13, .inl (cI, 16, .inl (fun _ => 0))), (q20, .inl (cI, 16, .inl (fun _ => 0))), (q27, .inl (cI, 16, .inl (fun _ => 0)))] H := hP
  have hD : va_D zA [(zh, .inr (0, [.ref q6, .ref q13, .ref q20, .ref q27, .int (0 : Int32)])), (q6, .inl (cI, 16, .inl (fun _ => 0))), (q13, .inl (cI, 16, .inl (fun _ => 0))), (q20, .inl (cI, 16, .inl (fun _ => 0))), (q27, .inl (cI, 16, .inl (fun _ => 0)))] := hD
  exact us_vret hQ (by decide) (by decide) hx hb hr hlk hK hS (q6, q13, q20, q27) rfl (by simp) hP hD d_Row_init_32

set_option maxHeartbeats 4000000 in
set_option maxRecDepth 100000 in
theorem c_Row_init64 (zl : Launch) (dC : Nat → ClassId) (dI : Nat → Nat → Nat) (cI cL cS cR : ClassId) (zh : Nat)  : us_Met (S := Nat × Nat × Nat × Nat) zl y_Row_init w_Row_init ({ frames := 1, cells := 4, slots := 256, locals := 24 }) (dC, dI) vwCl (us_ty cI cL cS cR) [.ref zh, .int (64 : Int32)] [(zh, .inr (0, [.null, .null, .null, .null, .int (0 : Int32)]))] (fun _ => none) (fun u => True) (fun u => [(zh, .inr (0, [.ref u.1, .ref u.2.1, .ref u.2.2.1, .ref u.2.2.2, .int (nI 0)])), (u.1, .inl (cI, 64, .inl (fun _ => 0))), (u.2.1, .inl (cI, 64, .inl (fun _ => 0))), (u.2.2.1, .inl (cI, 64, .inl (fun _ => 0))), (u.2.2.2, .inl (cI, 64, .inl (fun _ => 0)))]) := by
  refine us_ofW (cc := b_Row_init) (maxL := 2) (ret := none) (by decide) (Nat.le_of_ble_eq_true rfl) ?_
  intro zp ze zs zm args below meth zc zA ls zQ hQ hx hb hr hml hts hown hlk hin hl hK hP hD hS hA
  have hown : zs.vm.findClass "UpcastStreams$Row" = some zm.cls := hown
  have hl : lv_has ls 2 [(0, .ref zh), (1, .int (64 : Int32))] := hl
  obtain ⟨H, hH⟩ : ∃ H, H = zs.heap := ⟨_, rfl⟩
  rw [← hH] at hP ⊢
  have hS : va_S zA zs.heap H [] := hH ▸ hS
  generalize ([] : List Loc) = locs at hS ⊢
  refine lv_aload_n hx hb d_Row_init_0 rfl (lv_at hl 0 rfl) ?_
  refine W.objInit hx hb hown (hts _ (us_m1 37 rfl (by decide))) (hts _ (us_m1 24 rfl (by decide))) (hts _ (us_m1 25 rfl (by decide))) rfl (by rw [hml]; exact hl.1) rfl d_Row_init_1 (Nat.le_of_ble_eq_true rfl) (Nat.le_of_ble_eq_true rfl) ?_
  refine W.eq (g2 := F0 zm 4 ls []) rfl ?_
  refine lv_aload_n hx hb d_Row_init_4 rfl (lv_at hl 0 rfl) ?_
  refine lv_iload_n hx hb d_Row_init_5 rfl (lv_at hl 1 rfl) ?_
  refine us_newa (t0 := 0) (a0 := (64, .inl (fun _ => 0))) (ty := .int) (atype := .int) hx hb (hts _ uw_1_74) rfl hK hP hD hS hA rfl (fun _ => rfl) (by decide) (by decide) (by decide) (by decide) (by decide) d_Row_init_6 (fun q6 H hP hD hS => ?_)
  have hP : va_P (dC, dI) vwCl [(zh, .inr (0, [.null, .null, .null, .null, .int (0 : Int32)])), (q6, .inl (cI, 64, .inl (fun _ => 0)))] H := hP
  have hD : va_D zA [(zh, .inr (0, [.null, .null, .null, .null, .int (0 : Int32)])), (q6, .inl (cI, 64, .inl (fun _ => 0)))] := hD
  refine W.widen (k := 1) (n := 64) (by decide) (by decide) ?_
  refine W.eq (g2 := F0 zm 8 ls [.ref q6, .ref zh]) rfl ?_
  refine va_putF (D := (dC, dI)) (ci := 0) (v := .ref q6) (ty := (.array .int)) (C := "UpcastStreams$Row") (T := F_Row) (N := 5) hx hb hts in_Row t_Row t_Row_ok n_Row hown hK hP hD hS 0 rfl rfl 0 (by decide) (hts _ uw_1_38) (fun _ h9 => h9) rfl hin rfl (by decide +kernel) rfl rfl (Nat.le_of_ble_eq_true rfl) d_Row_init_8 (fun H locs hP hD hS => ?_)
  have hP : va_P (dC, dI) vwCl [(zh, .inr (0, [.ref q6, .null, .null, .null, .int (0 : Int32)])), (q6, .inl (cI, 64, .inl (fun _ => 0)))] H := hP
  have hD : va_D zA [(zh, .inr (0, [.ref q6, .null, .null, .null, .int (0 : Int32)])), (q6, .inl (cI, 64, .inl (fun _ => 0)))] := hD
  refine lv_aload_n hx hb d_Row_init_11 rfl (lv_at hl 0 rfl) ?_
  refine lv_iload_n hx hb d_Row_init_12 rfl (lv_at hl 1 rfl) ?_
  refine us_newa (t0 := 0) (a0 := (64, .inl (fun _ => 0))) (ty := .int) (atype := .int) hx hb (hts _ uw_1_74) rfl hK hP hD hS hA rfl (fun _ => rfl) (by decide) (by decide) (by decide) (by decide) (by decide) d_Row_init_13 (fun q13 H hP hD hS => ?_)
  have hP : va_P (dC, dI) vwCl [(zh, .inr (0, [.ref q6, .null, .null, .null, .int (0 : Int32)])), (q6, .inl (cI, 64, .inl (fun _ => 0))), (q13, .inl (cI, 64, .inl (fun _ => 0)))] H := hP
  have hD : va_D zA [(zh, .inr (0, [.ref q6, .null, .null, .null, .int (0 : Int32)])), (q6, .inl (cI, 64, .inl (fun _ => 0))), (q13, .inl (cI, 64, .inl (fun _ => 0)))] := hD
  refine W.widen (k := 2) (n := 128) (by decide) (by decide) ?_
  refine W.eq (g2 := F0 zm 15 ls [.ref q13, .ref zh]) rfl ?_
  refine va_putF (D := (dC, dI)) (ci := 0) (v := .ref q13) (ty := (.array .int)) (C := "UpcastStreams$Row") (T := F_Row) (N := 5) hx hb hts in_Row t_Row t_Row_ok n_Row hown hK hP hD hS 0 rfl rfl 1 (by decide) (hts _ uw_1_44) (fun _ h9 => h9) rfl hin rfl (by decide +kernel) rfl rfl (Nat.le_of_ble_eq_true rfl) d_Row_init_15 (fun H locs hP hD hS => ?_)
  have hP : va_P (dC, dI) vwCl [(zh, .inr (0, [.ref q6, .ref q13, .null, .null, .int (0 : Int32)])), (q6, .inl (cI, 64, .inl (fun _ => 0))), (q13, .inl (cI, 64, .inl (fun _ => 0)))] H := hP
  have hD : va_D zA [(zh, .inr (0, [.ref q6, .ref q13, .null, .null, .int (0 : Int32)])), (q6, .inl (cI, 64, .inl (fun _ => 0))), (q13, .inl (cI, 64, .inl (fun _ => 0)))] := hD
  refine lv_aload_n hx hb d_Row_init_18 rfl (lv_at hl 0 rfl) ?_
  refine lv_iload_n hx hb d_Row_init_19 rfl (lv_at hl 1 rfl) ?_
  refine us_newa (t0 := 0) (a0 := (64, .inl (fun _ => 0))) (ty := .int) (atype := .int) hx hb (hts _ uw_1_74) rfl hK hP hD hS hA rfl (fun _ => rfl) (by decide) (by decide) (by decide) (by decide) (by decide) d_Row_init_20 (fun q20 H hP hD hS => ?_)
  have hP : va_P (dC, dI) vwCl [(zh, .inr (0, [.ref q6, .ref q13, .null, .null, .int (0 : Int32)])), (q6, .inl (cI, 64, .inl (fun _ => 0))), (q13, .inl (cI, 64, .inl (fun _ => 0))), (q20, .inl (cI, 64, .inl (fun _ => 0)))] H := hP
  have hD : va_D zA [(zh, .inr (0, [.ref q6, .ref q13, .null, .null, .int (0 : Int32)])), (q6, .inl (cI, 64, .inl (fun _ => 0))), (q13, .inl (cI, 64, .inl (fun _ => 0))), (q20, .inl (cI, 64, .inl (fun _ => 0)))] := hD
  refine W.widen (k := 3) (n := 192) (by decide) (by decide) ?_
  refine W.eq (g2 := F0 zm 22 ls [.ref q20, .ref zh]) rfl ?_
  refine va_putF (D := (dC, dI)) (ci := 0) (v := .ref q20) (ty := (.array .int)) (C := "UpcastStreams$Row") (T := F_Row) (N := 5) hx hb hts in_Row t_Row t_Row_ok n_Row hown hK hP hD hS 0 rfl rfl 2 (by decide) (hts _ uw_1_47) (fun _ h9 => h9) rfl hin rfl (by decide +kernel) rfl rfl (Nat.le_of_ble_eq_true rfl) d_Row_init_22 (fun H locs hP hD hS => ?_)
  have hP : va_P (dC, dI) vwCl [(zh, .inr (0, [.ref q6, .ref q13, .ref q20, .null, .int (0 : Int32)])), (q6, .inl (cI, 64, .inl (fun _ => 0))), (q13, .inl (cI, 64, .inl (fun _ => 0))), (q20, .inl (cI, 64, .inl (fun _ => 0)))] H := hP
  have hD : va_D zA [(zh, .inr (0, [.ref q6, .ref q13, .ref q20, .null, .int (0 : Int32)])), (q6, .inl (cI, 64, .inl (fun _ => 0))), (q13, .inl (cI, 64, .inl (fun _ => 0))), (q20, .inl (cI, 64, .inl (fun _ => 0)))] := hD
  refine lv_aload_n hx hb d_Row_init_25 rfl (lv_at hl 0 rfl) ?_
  refine lv_iload_n hx hb d_Row_init_26 rfl (lv_at hl 1 rfl) ?_
  refine us_newa (t0 := 0) (a0 := (64, .inl (fun _ => 0))) (ty := .int) (atype := .int) hx hb (hts _ uw_1_74) rfl hK hP hD hS hA rfl (fun _ => rfl) (by decide) (by decide) (by decide) (by decide) (by decide) d_Row_init_27 (fun q27 H hP hD hS => ?_)
  have hP : va_P (dC, dI) vwCl [(zh, .inr (0, [.ref q6, .ref q13, .ref q20, .null, .int (0 : Int32)])), (q6, .inl (cI, 64, .inl (fun _ => 0))), (q13, .inl (cI, 64, .inl (fun _ => 0))), (q20, .inl (cI, 64, .inl (fun _ => 0))), (q27, .inl (cI, 64, .inl (fun _ => 0)))] H := hP
  have hD : va_D zA [(zh, .inr (0, [.ref q6, .ref q13, .ref q20, .null, .int (0 : Int32)])), (q6, .inl (cI, 64, .inl (fun _ => 0))), (q13, .inl (cI, 64, .inl (fun _ => 0))), (q20, .inl (cI, 64, .inl (fun _ => 0))), (q27, .inl (cI, 64, .inl (fun _ => 0)))] := hD
  refine W.widen (k := 4) (n := 256) (by decide) (by decide) ?_
  refine W.eq (g2 := F0 zm 29 ls [.ref q27, .ref zh]) rfl ?_
  refine va_putF (D := (dC, dI)) (ci := 0) (v := .ref q27) (ty := (.array .int)) (C := "UpcastStreams$Row") (T := F_Row) (N := 5) hx hb hts in_Row t_Row t_Row_ok n_Row hown hK hP hD hS 0 rfl rfl 3 (by decide) (hts _ uw_1_52) (fun _ h9 => h9) rfl hin rfl (by decide +kernel) rfl rfl (Nat.le_of_ble_eq_true rfl) d_Row_init_29 (fun H locs hP hD hS => ?_)
  have hP : va_P (dC, dI) vwCl [(zh, .inr (0, [.ref q6, .ref q13, .ref q20, .ref q27, .int (0 : Int32)])), (q6, .inl (cI, 64, .inl (fun _ => 0))), (q13, .inl (cI, 64, .inl (fun _ => 0))), (q20, .inl (cI, 64, .inl (fun _ => 0))), (q27, .inl (cI, 64, .inl (fun _ => 0)))] H := hP
  have hD : va_D zA [(zh, .inr (0, [.ref q6, .ref q13, .ref q20, .ref q27, .int (0 : Int32)])), (q6, .inl (cI, 64, .inl (fun _ => 0))), (q13, .inl (cI, 64, .inl (fun _ => 0))), (q20, .inl (cI, 64, .inl (fun _ => 0))), (q27, .inl (cI, 64, .inl (fun _ => 0)))] := hD
  exact us_vret hQ (by decide) (by decide) hx hb hr hlk hK hS (q6, q13, q20, q27) rfl (by simp) hP hD d_Row_init_32

set_option maxHeartbeats 4000000 in
set_option maxRecDepth 100000 in
theorem c_State_init (zl : Launch) (dC : Nat → ClassId) (dI : Nat → Nat → Nat) (cI cL cS cR : ClassId) (h : Nat)  : us_Met (S := Unit) zl y_State_init w_State_init ({ frames := 1, cells := 0, slots := 0, locals := 24 }) (dC, dI) vwCl (us_ty cI cL cS cR) [.ref h] [(h, .inr (1, [.int (us_b false), .int (us_b false), .long 0, .long 0, .long 0, .long 0, .long 0, .long 0]))] (fun _ => none) (fun u => True) (fun u => [(h, .inr (1, [.int (us_b false), .int (us_b false), .long 0, .long 0, .long 0, .long 0, .long 0, .long 0]))]) := by
  refine us_ofW (cc := b_State_init) (maxL := 1) (ret := none) (by decide) (Nat.le_of_ble_eq_true rfl) ?_
  intro zp ze zs zm args below meth zc zA ls zQ hQ hx hb hr hml hts hown hlk hin hl hK hP hD hS hA
  have hown : zs.vm.findClass "UpcastStreams$State" = some zm.cls := hown
  have hl : lv_has ls 1 [(0, .ref h)] := hl
  obtain ⟨H, hH⟩ : ∃ H, H = zs.heap := ⟨_, rfl⟩
  rw [← hH] at hP ⊢
  have hS : va_S zA zs.heap H [] := hH ▸ hS
  generalize ([] : List Loc) = locs at hS ⊢
  refine lv_aload_n hx hb d_State_init_0 rfl (lv_at hl 0 rfl) ?_
  refine W.objInit hx hb hown (hts _ (us_m1 133 rfl (by decide))) (hts _ (us_m1 24 rfl (by decide))) (hts _ (us_m1 25 rfl (by decide))) rfl (by rw [hml]; exact hl.1) rfl d_State_init_1 (Nat.le_of_ble_eq_true rfl) (Nat.le_of_ble_eq_true rfl) ?_
  refine W.eq (g2 := F0 zm 4 ls []) rfl ?_
  exact us_vret hQ (by decide) (by decide) hx hb hr hlk hK hS () rfl (by simp) hP hD d_State_init_4

set_option maxHeartbeats 4000000 in
set_option maxRecDepth 100000 in
theorem c_Reader_init (zl : Launch) (dC : Nat → ClassId) (dI : Nat → Nat → Nat) (cI cL cS cR : ClassId) (h : Nat)  : us_Met (S := Unit) zl y_Reader_init w_Reader_init ({ frames := 1, cells := 0, slots := 0, locals := 24 }) (dC, dI) vwCl (us_ty cI cL cS cR) [.ref h] [(h, .inr (2, [.int (0 : Int32), .int (0 : Int32), .int (0 : Int32), .int (0 : Int32)]))] (fun _ => none) (fun u => True) (fun u => [(h, .inr (2, [.int (0 : Int32), .int (0 : Int32), .int (0 : Int32), .int (0 : Int32)]))]) := by
  refine us_ofW (cc := b_Reader_init) (maxL := 1) (ret := none) (by decide) (Nat.le_of_ble_eq_true rfl) ?_
  intro zp ze zs zm args below meth zc zA ls zQ hQ hx hb hr hml hts hown hlk hin hl hK hP hD hS hA
  have hown : zs.vm.findClass "UpcastStreams$Reader" = some zm.cls := hown
  have hl : lv_has ls 1 [(0, .ref h)] := hl
  obtain ⟨H, hH⟩ : ∃ H, H = zs.heap := ⟨_, rfl⟩
  rw [← hH] at hP ⊢
  have hS : va_S zA zs.heap H [] := hH ▸ hS
  generalize ([] : List Loc) = locs at hS ⊢
  refine lv_aload_n hx hb d_Reader_init_0 rfl (lv_at hl 0 rfl) ?_
  refine W.objInit hx hb hown (hts _ (us_m1 179 rfl (by decide))) (hts _ (us_m1 24 rfl (by decide))) (hts _ (us_m1 25 rfl (by decide))) rfl (by rw [hml]; exact hl.1) rfl d_Reader_init_1 (Nat.le_of_ble_eq_true rfl) (Nat.le_of_ble_eq_true rfl) ?_
  refine W.eq (g2 := F0 zm 4 ls []) rfl ?_
  exact us_vret hQ (by decide) (by decide) hx hb hr hlk hK hS () rfl (by simp) hP hD d_Reader_init_4
