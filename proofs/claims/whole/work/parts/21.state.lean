set_option maxHeartbeats 4000000 in
set_option maxRecDepth 100000 in
theorem c_State_clear (zl : Launch) (dC : Nat → ClassId) (dI : Nat → Nat → Nat) (cI cL cS cR : ClassId) (h : Nat) (op : Bool) (fr : Bool) (li : Int64) (ba : Int64) (to : Int64) (mo : Int64) (od : Int64) (ch : Int64)  : us_Met (S := Unit) zl y_State_clear w_State_clear ({ frames := 0, cells := 0, slots := 0, locals := 0 }) (dC, dI) vwCl (us_ty cI cL cS cR) [.ref h] [(h, .inr (1, [.int (us_b op), .int (us_b fr), .long li, .long ba, .long to, .long mo, .long od, .long ch]))] (fun _ => none) (fun u => True) (fun u => [(h, .inr (1, [.int (us_b false), .int (us_b false), .long 0, .long 0, .long 0, .long 0, .long 0, .long 0]))]) := by
  refine us_ofW (cc := b_State_clear) (maxL := 1) (ret := none) (by decide) (Nat.le_of_ble_eq_true rfl) ?_
  intro zp ze zs zm args below meth zc zA ls zQ hQ hx hb hr hml hts hown hlk hin hl hK hP hD hS hA
  have hown : zs.vm.findClass "UpcastStreams$State" = some zm.cls := hown
  have hl : lv_has ls 1 [(0, .ref h)] := hl
  obtain ⟨H, hH⟩ : ∃ H, H = zs.heap := ⟨_, rfl⟩
  rw [← hH] at hP ⊢
  have hS : va_S zA zs.heap H [] := hH ▸ hS
  generalize ([] : List Loc) = locs at hS ⊢
  refine lv_aload_n hx hb d_State_clear_0 rfl (lv_at hl 0 rfl) ?_
  refine lv_iconst (v := (0 : Int32)) hx hb d_State_clear_1 (by decide) ?_
  refine us_top (show (0 : Int32) = us_b false from rfl) ?_
  refine va_put (D := (dC, dI)) (ci := 1) (v := .int (us_b false)) (ty := .boolean) (C := "UpcastStreams$State") (T := F_State) (N := 8) hx hb hts in_State t_State t_State_ok n_State hown hK hP hD hS 0 rfl rfl 0 (by decide) (hts _ uw_1_134) (fun _ h9 => h9) rfl (by decide +kernel) (us_nb _) (us_fb _) (Nat.le_of_ble_eq_true rfl) d_State_clear_2 (fun H locs hP hD hS => ?_)
  have hP : va_P (dC, dI) vwCl [(h, .inr (1, [.int (us_b false), .int (us_b fr), .long li, .long ba, .long to, .long mo, .long od, .long ch]))] H := hP
  have hD : va_D zA [(h, .inr (1, [.int (us_b false), .int (us_b fr), .long li, .long ba, .long to, .long mo, .long od, .long ch]))] := hD
  refine lv_aload_n hx hb d_State_clear_5 rfl (lv_at hl 0 rfl) ?_
  refine lv_iconst (v := (0 : Int32)) hx hb d_State_clear_6 (by decide) ?_
  refine us_top (show (0 : Int32) = us_b false from rfl) ?_
  refine va_put (D := (dC, dI)) (ci := 1) (v := .int (us_b false)) (ty := .boolean) (C := "UpcastStreams$State") (T := F_State) (N := 8) hx hb hts in_State t_State t_State_ok n_State hown hK hP hD hS 0 rfl rfl 1 (by decide) (hts _ uw_1_135) (fun _ h9 => h9) rfl (by decide +kernel) (us_nb _) (us_fb _) (Nat.le_of_ble_eq_true rfl) d_State_clear_7 (fun H locs hP hD hS => ?_)
  have hP : va_P (dC, dI) vwCl [(h, .inr (1, [.int (us_b false), .int (us_b false), .long li, .long ba, .long to, .long mo, .long od, .long ch]))] H := hP
  have hD : va_D zA [(h, .inr (1, [.int (us_b false), .int (us_b false), .long li, .long ba, .long to, .long mo, .long od, .long ch]))] := hD
  refine lv_aload_n hx hb d_State_clear_10 rfl (lv_at hl 0 rfl) ?_
  refine lv_lconst (v := (0 : Int64)) hx hb d_State_clear_11 (by decide) ?_
  refine va_put (D := (dC, dI)) (ci := 1) (v := .long (0 : Int64)) (ty := .long) (C := "UpcastStreams$State") (T := F_State) (N := 8) hx hb hts in_State t_State t_State_ok n_State hown hK hP hD hS 0 rfl rfl 2 (by decide) (hts _ uw_1_136) (fun _ h9 => h9) rfl (by decide +kernel) rfl rfl (Nat.le_of_ble_eq_true rfl) d_State_clear_12 (fun H locs hP hD hS => ?_)
  have hP : va_P (dC, dI) vwCl [(h, .inr (1, [.int (us_b false), .int (us_b false), .long (0 : Int64), .long ba, .long to, .long mo, .long od, .long ch]))] H := hP
  have hD : va_D zA [(h, .inr (1, [.int (us_b false), .int (us_b false), .long (0 : Int64), .long ba, .long to, .long mo, .long od, .long ch]))] := hD
  refine lv_aload_n hx hb d_State_clear_15 rfl (lv_at hl 0 rfl) ?_
  refine lv_lconst (v := (0 : Int64)) hx hb d_State_clear_16 (by decide) ?_
  refine va_put (D := (dC, dI)) (ci := 1) (v := .long (0 : Int64)) (ty := .long) (C := "UpcastStreams$State") (T := F_State) (N := 8) hx hb hts in_State t_State t_State_ok n_State hown hK hP hD hS 0 rfl rfl 3 (by decide) (hts _ uw_1_137) (fun _ h9 => h9) rfl (by decide +kernel) rfl rfl (Nat.le_of_ble_eq_true rfl) d_State_clear_17 (fun H locs hP hD hS => ?_)
  have hP : va_P (dC, dI) vwCl [(h, .inr (1, [.int (us_b false), .int (us_b false), .long (0 : Int64), .long (0 : Int64), .long to, .long mo, .long od, .long ch]))] H := hP
  have hD : va_D zA [(h, .inr (1, [.int (us_b false), .int (us_b false), .long (0 : Int64), .long (0 : Int64), .long to, .long mo, .long od, .long ch]))] := hD
  refine lv_aload_n hx hb d_State_clear_20 rfl (lv_at hl 0 rfl) ?_
  refine lv_lconst (v := (0 : Int64)) hx hb d_State_clear_21 (by decide) ?_
  refine va_put (D := (dC, dI)) (ci := 1) (v := .long (0 : Int64)) (ty := .long) (C := "UpcastStreams$State") (T := F_State) (N := 8) hx hb hts in_State t_State t_State_ok n_State hown hK hP hD hS 0 rfl rfl 4 (by decide) (hts _ uw_1_138) (fun _ h9 => h9) rfl (by decide +kernel) rfl rfl (Nat.le_of_ble_eq_true rfl) d_State_clear_22 (fun H locs hP hD hS => ?_)
  have hP : va_P (dC, dI) vwCl [(h, .inr (1, [.int (us_b false), .int (us_b false), .long (0 : Int64), .long (0 : Int64), .long (0 : Int64), .long mo, .long od, .long ch]))] H := hP
  have hD : va_D zA [(h, .inr (1, [.int (us_b false), .int (us_b false), .long (0 : Int64), .long (0 : Int64), .long (0 : Int64), .long mo, .long od, .long ch]))] := hD
  refine lv_aload_n hx hb d_State_clear_25 rfl (lv_at hl 0 rfl) ?_
  refine lv_lconst (v := (0 : Int64)) hx hb d_State_clear_26 (by decide) ?_
  refine va_put (D := (dC, dI)) (ci := 1) (v := .long (0 : Int64)) (ty := .long) (C := "UpcastStreams$State") (T := F_State) (N := 8) hx hb hts in_State t_State t_State_ok n_State hown hK hP hD hS 0 rfl rfl 5 (by decide) (hts _ uw_1_139) (fun _ h9 => h9) rfl (by decide +kernel) rfl rfl (Nat.le_of_ble_eq_true rfl) d_State_clear_27 (fun H locs hP hD hS => ?_)
  have hP : va_P (dC, dI) vwCl [(h, .inr (1, [.int (us_b false), .int (us_b false), .long (0 : Int64), .long (0 : Int64), .long (0 : Int64), .long (0 : Int64), .long od, .long ch]))] H := hP
  have hD : va_D zA [(h, .inr (1, [.int (us_b false), .int (us_b false), .long (0 : Int64), .long (0 : Int64), .long (0 : Int64), .long (0 : Int64), .long od, .long ch]))] := hD
  refine lv_aload_n hx hb d_State_clear_30 rfl (lv_at hl 0 rfl) ?_
  refine lv_lconst (v := (0 : Int64)) hx hb d_State_clear_31 (by decide) ?_
  refine va_put (D := (dC, dI)) (ci := 1) (v := .long (0 : Int64)) (ty := .long) (C := "UpcastStreams$State") (T := F_State) (N := 8) hx hb hts in_State t_State t_State_ok n_State hown hK hP hD hS 0 rfl rfl 6 (by decide) (hts _ uw_1_140) (fun _ h9 => h9) rfl (by decide +kernel) rfl rfl (Nat.le_of_ble_eq_true rfl) d_State_clear_32 (fun H locs hP hD hS => ?_)
  have hP : va_P (dC, dI) vwCl [(h, .inr (1, [.int (us_b false), .int (us_b false), .long (0 : Int64), .long (0 : Int64), .long (0 : Int64), .long (0 : Int64), .long (0 : Int64), .long ch]))] H := hP
  have hD : va_D zA [(h, .inr (1, [.int (us_b false), .int (us_b false), .long (0 : Int64), .long (0 : Int64), .long (0 : Int64), .long (0 : Int64), .long (0 : Int64), .long ch]))] := hD
  refine lv_aload_n hx hb d_State_clear_35 rfl (lv_at hl 0 rfl) ?_
  refine lv_lconst (v := (0 : Int64)) hx hb d_State_clear_36 (by decide) ?_
  refine va_put (D := (dC, dI)) (ci := 1) (v := .long (0 : Int64)) (ty := .long) (C := "UpcastStreams$State") (T := F_State) (N := 8) hx hb hts in_State t_State t_State_ok n_State hown hK hP hD hS 0 rfl rfl 7 (by decide) (hts _ uw_1_142) (fun _ h9 => h9) rfl (by decide +kernel) rfl rfl (Nat.le_of_ble_eq_true rfl) d_State_clear_37 (fun H locs hP hD hS => ?_)
  have hP : va_P (dC, dI) vwCl [(h, .inr (1, [.int (us_b false), .int (us_b false), .long (0 : Int64), .long (0 : Int64), .long (0 : Int64), .long (0 : Int64), .long (0 : Int64), .long (0 : Int64)]))] H := hP
  have hD : va_D zA [(h, .inr (1, [.int (us_b false), .int (us_b false), .long (0 : Int64), .long (0 : Int64), .long (0 : Int64), .long (0 : Int64), .long (0 : Int64), .long (0 : Int64)]))] := hD
  exact us_vret hQ (by decide) (by decide) hx hb hr hlk hK hS () rfl (by simp) hP hD d_State_clear_40

set_option maxHeartbeats 4000000 in
set_option maxRecDepth 100000 in
theorem c_State_become (zl : Launch) (dC : Nat → ClassId) (dI : Nat → Nat → Nat) (cI cL cS cR : ClassId) (h : Nat) (k : Nat) (op : Bool) (fr : Bool) (li : Int64) (ba : Int64) (to : Int64) (mo : Int64) (od : Int64) (ch : Int64) (p1 : Bool) (p2 : Bool) (p3 : Int64) (p4 : Int64) (p5 : Int64) (p6 : Int64) (p7 : Int64) (p8 : Int64)  : us_Met (S := Unit) zl y_State_become w_State_become ({ frames := 0, cells := 0, slots := 0, locals := 0 }) (dC, dI) vwCl (us_ty cI cL cS cR) [.ref h, .ref k] [(h, .inr (1, [.int (us_b op), .int (us_b fr), .long li, .long ba, .long to, .long mo, .long od, .long ch])), (k, .inr (1, [.int (us_b p1), .int (us_b p2), .long p3, .long p4, .long p5, .long p6, .long p7, .long p8]))] (fun _ => none) (fun u => True) (fun u => [(h, .inr (1, [.int (us_b p1), .int (us_b p2), .long p3, .long p4, .long p5, .long p6, .long p7, .long p8])), (k, .inr (1, [.int (us_b p1), .int (us_b p2), .long p3, .long p4, .long p5, .long p6, .long p7, .long p8]))]) := by
  refine us_ofW (cc := b_State_become) (maxL := 2) (ret := none) (by decide) (Nat.le_of_ble_eq_true rfl) ?_
  intro zp ze zs zm args below meth zc zA ls zQ hQ hx hb hr hml hts hown hlk hin hl hK hP hD hS hA
  have hown : zs.vm.findClass "UpcastStreams$State" = some zm.cls := hown
  have hl : lv_has ls 2 [(0, .ref h), (1, .ref k)] := hl
  obtain ⟨H, hH⟩ : ∃ H, H = zs.heap := ⟨_, rfl⟩
  rw [← hH] at hP ⊢
  have hS : va_S zA zs.heap H [] := hH ▸ hS
  generalize ([] : List Loc) = locs at hS ⊢
  refine lv_aload_n hx hb d_State_become_0 rfl (lv_at hl 0 rfl) ?_
  refine lv_aload_n hx hb d_State_become_1 rfl (lv_at hl 1 rfl) ?_
  refine va_get (D := (dC, dI)) (ci := 1) (v := .int (us_b p1)) (C := "UpcastStreams$State") (T := F_State) (N := 8) hx hb hts in_State hown hK hP 1 rfl rfl 0 (by decide) (hts _ uw_1_134) (fun _ h9 => h9) rfl d_State_become_2 ?_
  refine va_put (D := (dC, dI)) (ci := 1) (v := .int (us_b p1)) (ty := .boolean) (C := "UpcastStreams$State") (T := F_State) (N := 8) hx hb hts in_State t_State t_State_ok n_State hown hK hP hD hS 0 rfl rfl 0 (by decide) (hts _ uw_1_134) (fun _ h9 => h9) rfl (by decide +kernel) (us_nb _) (us_fb _) (Nat.le_of_ble_eq_true rfl) d_State_become_5 (fun H locs hP hD hS => ?_)
  have hP : va_P (dC, dI) vwCl [(h, .inr (1, [.int (us_b p1), .int (us_b fr), .long li, .long ba, .long to, .long mo, .long od, .long ch])), (k, .inr (1, [.int (us_b p1), .int (us_b p2), .long p3, .long p4, .long p5, .long p6, .long p7, .long p8]))] H := hP
  have hD : va_D zA [(h, .inr (1, [.int (us_b p1), .int (us_b fr), .long li, .long ba, .long to, .long mo, .long od, .long ch])), (k, .inr (1, [.int (us_b p1), .int (us_b p2), .long p3, .long p4, .long p5, .long p6, .long p7, .long p8]))] := hD
  refine lv_aload_n hx hb d_State_become_8 rfl (lv_at hl 0 rfl) ?_
  refine lv_aload_n hx hb d_State_become_9 rfl (lv_at hl 1 rfl) ?_
  refine va_get (D := (dC, dI)) (ci := 1) (v := .int (us_b p2)) (C := "UpcastStreams$State") (T := F_State) (N := 8) hx hb hts in_State hown hK hP 1 rfl rfl 1 (by decide) (hts _ uw_1_135) (fun _ h9 => h9) rfl d_State_become_10 ?_
  refine va_put (D := (dC, dI)) (ci := 1) (v := .int (us_b p2)) (ty := .boolean) (C := "UpcastStreams$State") (T := F_State) (N := 8) hx hb hts in_State t_State t_State_ok n_State hown hK hP hD hS 0 rfl rfl 1 (by decide) (hts _ uw_1_135) (fun _ h9 => h9) rfl (by decide +kernel) (us_nb _) (us_fb _) (Nat.le_of_ble_eq_true rfl) d_State_become_13 (fun H locs hP hD hS => ?_)
  have hP : va_P (dC, dI) vwCl [(h, .inr (1, [.int (us_b p1), .int (us_b p2), .long li, .long ba, .long to, .long mo, .long od, .long ch])), (k, .inr (1, [.int (us_b p1), .int (us_b p2), .long p3, .long p4, .long p5, .long p6, .long p7, .long p8]))] H := hP
  have hD : va_D zA [(h, .inr (1, [.int (us_b p1), .int (us_b p2), .long li, .long ba, .long to, .long mo, .long od, .long ch])), (k, .inr (1, [.int (us_b p1), .int (us_b p2), .long p3, .long p4, .long p5, .long p6, .long p7, .long p8]))] := hD
  refine lv_aload_n hx hb d_State_become_16 rfl (lv_at hl 0 rfl) ?_
  refine lv_aload_n hx hb d_State_become_17 rfl (lv_at hl 1 rfl) ?_
  refine va_get (D := (dC, dI)) (ci := 1) (v := .long p3) (C := "UpcastStreams$State") (T := F_State) (N := 8) hx hb hts in_State hown hK hP 1 rfl rfl 2 (by decide) (hts _ uw_1_136) (fun _ h9 => h9) rfl d_State_become_18 ?_
  refine va_put (D := (dC, dI)) (ci := 1) (v := .long p3) (ty := .long) (C := "UpcastStreams$State") (T := F_State) (N := 8) hx hb hts in_State t_State t_State_ok n_State hown hK hP hD hS 0 rfl rfl 2 (by decide) (hts _ uw_1_136) (fun _ h9 => h9) rfl (by decide +kernel) rfl rfl (Nat.le_of_ble_eq_true rfl) d_State_become_21 (fun H locs hP hD hS => ?_)
  have hP : va_P (dC, dI) vwCl [(h, .inr (1, [.int (us_b p1), .int (us_b p2), .long p3, .long ba, .long to, .long mo, .long od, .long ch])), (k, .inr (1, [.int (us_b p1), .int (us_b p2), .long p3, .long p4, .long p5, .long p6, .long p7, .long p8]))] H := hP
  have hD : va_D zA [(h, .inr (1, [.int (us_b p1), .int (us_b p2), .long p3, .long ba, .long to, .long mo, .long od, .long ch])), (k, .inr (1, [.int (us_b p1), .int (us_b p2), .long p3, .long p4, .long p5, .long p6, .long p7, .long p8]))] := hD
  refine lv_aload_n hx hb d_State_become_24 rfl (lv_at hl 0 rfl) ?_
  refine lv_aload_n hx hb d_State_become_25 rfl (lv_at hl 1 rfl) ?_
  refine va_get (D := (dC, dI)) (ci := 1) (v := .long p4) (C := "UpcastStreams$State") (T := F_State) (N := 8) hx hb hts in_State hown hK hP 1 rfl rfl 3 (by decide) (hts _ uw_1_137) (fun _ h9 => h9) rfl d_State_become_26 ?_
  refine va_put (D := (dC, dI)) (ci := 1) (v := .long p4) (ty := .long) (C := "UpcastStreams$State") (T := F_State) (N := 8) hx hb hts in_State t_State t_State_ok n_State hown hK hP hD hS 0 rfl rfl 3 (by decide) (hts _ uw_1_137) (fun _ h9 => h9) rfl (by decide +kernel) rfl rfl (Nat.le_of_ble_eq_true rfl) d_State_become_29 (fun H locs hP hD hS => ?_)
  have hP : va_P (dC, dI) vwCl [(h, .inr (1, [.int (us_b p1), .int (us_b p2), .long p3, .long p4, .long to, .long mo, .long od, .long ch])), (k, .inr (1, [.int (us_b p1), .int (us_b p2), .long p3, .long p4, .long p5, .long p6, .long p7, .long p8]))] H := hP
  have hD : va_D zA [(h, .inr (1, [.int (us_b p1), .int (us_b p2), .long p3, .long p4, .long to, .long mo, .long od, .long ch])), (k, .inr (1, [.int (us_b p1), .int (us_b p2), .long p3, .long p4, .long p5, .long p6, .long p7, .long p8]))] := hD
  refine lv_aload_n hx hb d_State_become_32 rfl (lv_at hl 0 rfl) ?_
  refine lv_aload_n hx hb d_State_become_33 rfl (lv_at hl 1 rfl) ?_
  refine va_get (D := (dC, dI)) (ci := 1) (v := .long p5) (C := "UpcastStreams$State") (T := F_State) (N := 8) hx hb hts in_State hown hK hP 1 rfl rfl 4 (by decide) (hts _ uw_1_138) (fun _ h9 => h9) rfl d_State_become_34 ?_
  refine va_put (D := (dC, dI)) (ci := 1) (v := .long p5) (ty := .long) (C := "UpcastStreams$State") (T := F_State) (N := 8) hx hb hts in_State t_State t_State_ok n_State hown hK hP hD hS 0 rfl rfl 4 (by decide) (hts _ uw_1_138) (fun _ h9 => h9) rfl (by decide +kernel) rfl rfl (Nat.le_of_ble_eq_true rfl) d_State_become_37 (fun H locs hP hD hS => ?_)
  have hP : va_P (dC, dI) vwCl [(h, .inr (1, [.int (us_b p1), .int (us_b p2), .long p3, .long p4, .long p5, .long mo, .long od, .long ch])), (k, .inr (1, [.int (us_b p1), .int (us_b p2), .long p3, .long p4, .long p5, .long p6, .long p7, .long p8]))] H := hP
  have hD : va_D zA [(h, .inr (1, [.int (us_b p1), .int (us_b p2), .long p3, .long p4, .long p5, .long mo, .long od, .long ch])), (k, .inr (1, [.int (us_b p1), .int (us_b p2), .long p3, .long p4, .long p5, .long p6, .long p7, .long p8]))] := hD
  refine lv_aload_n hx hb d_State_become_40 rfl (lv_at hl 0 rfl) ?_
  refine lv_aload_n hx hb d_State_become_41 rfl (lv_at hl 1 rfl) ?_
  refine va_get (D := (dC, dI)) (ci := 1) (v := .long p6) (C := "UpcastStreams$State") (T := F_State) (N := 8) hx hb hts in_State hown hK hP 1 rfl rfl 5 (by decide) (hts _ uw_1_139) (fun _ h9 => h9) rfl d_State_become_42 ?_
  refine va_put (D := (dC, dI)) (ci := 1) (v := .long p6) (ty := .long) (C := "UpcastStreams$State") (T := F_State) (N := 8) hx hb hts in_State t_State t_State_ok n_State hown hK hP hD hS 0 rfl rfl 5 (by decide) (hts _ uw_1_139) (fun _ h9 => h9) rfl (by decide +kernel) rfl rfl (Nat.le_of_ble_eq_true rfl) d_State_become_45 (fun H locs hP hD hS => ?_)
  have hP : va_P (dC, dI) vwCl [(h, .inr (1, [.int (us_b p1), .int (us_b p2), .long p3, .long p4, .long p5, .long p6, .long od, .long ch])), (k, .inr (1, [.int (us_b p1), .int (us_b p2), .long p3, .long p4, .long p5, .long p6, .long p7, .long p8]))] H := hP
  have hD : va_D zA [(h, .inr (1, [.int (us_b p1), .int (us_b p2), .long p3, .long p4, .long p5, .long p6, .long od, .long ch])), (k, .inr (1, [.int (us_b p1), .int (us_b p2), .long p3, .long p4, .long p5, .long p6, .long p7, .long p8]))] := hD
  refine lv_aload_n hx hb d_State_become_48 rfl (lv_at hl 0 rfl) ?_
  refine lv_aload_n hx hb d_State_become_49 rfl (lv_at hl 1 rfl) ?_
  refine va_get (D := (dC, dI)) (ci := 1) (v := .long p7) (C := "UpcastStreams$State") (T := F_State) (N := 8) hx hb hts in_State hown hK hP 1 rfl rfl 6 (by decide) (hts _ uw_1_140) (fun _ h9 => h9) rfl d_State_become_50 ?_
  refine va_put (D := (dC, dI)) (ci := 1) (v := .long p7) (ty := .long) (C := "UpcastStreams$State") (T := F_State) (N := 8) hx hb hts in_State t_State t_State_ok n_State hown hK hP hD hS 0 rfl rfl 6 (by decide) (hts _ uw_1_140) (fun _ h9 => h9) rfl (by decide +kernel) rfl rfl (Nat.le_of_ble_eq_true rfl) d_State_become_53 (fun H locs hP hD hS => ?_)
  have hP : va_P (dC, dI) vwCl [(h, .inr (1, [.int (us_b p1), .int (us_b p2), .long p3, .long p4, .long p5, .long p6, .long p7, .long ch])), (k, .inr (1, [.int (us_b p1), .int (us_b p2), .long p3, .long p4, .long p5, .long p6, .long p7, .long p8]))] H := hP
  have hD : va_D zA [(h, .inr (1, [.int (us_b p1), .int (us_b p2), .long p3, .long p4, .long p5, .long p6, .long p7, .long ch])), (k, .inr (1, [.int (us_b p1), .int (us_b p2), .long p3, .long p4, .long p5, .long p6, .long p7, .long p8]))] := hD
  refine lv_aload_n hx hb d_State_become_56 rfl (lv_at hl 0 rfl) ?_
  refine lv_aload_n hx hb d_State_become_57 rfl (lv_at hl 1 rfl) ?_
  refine va_get (D := (dC, dI)) (ci := 1) (v := .long p8) (C := "UpcastStreams$State") (T := F_State) (N := 8) hx hb hts in_State hown hK hP 1 rfl rfl 7 (by decide) (hts _ uw_1_142) (fun _ h9 => h9) rfl d_State_become_58 ?_
  refine va_put (D := (dC, dI)) (ci := 1) (v := .long p8) (ty := .long) (C := "UpcastStreams$State") (T := F_State) (N := 8) hx hb hts in_State t_State t_State_ok n_State hown hK hP hD hS 0 rfl rfl 7 (by decide) (hts _ uw_1_142) (fun _ h9 => h9) rfl (by decide +kernel) rfl rfl (Nat.le_of_ble_eq_true rfl) d_State_become_61 (fun H locs hP hD hS => ?_)
  have hP : va_P (dC, dI) vwCl [(h, .inr (1, [.int (us_b p1), .int (us_b p2), .long p3, .long p4, .long p5, .long p6, .long p7, .long p8])), (k, .inr (1, [.int (us_b p1), .int (us_b p2), .long p3, .long p4, .long p5, .long p6, .long p7, .long p8]))] H := hP
  have hD : va_D zA [(h, .inr (1, [.int (us_b p1), .int (us_b p2), .long p3, .long p4, .long p5, .long p6, .long p7, .long p8])), (k, .inr (1, [.int (us_b p1), .int (us_b p2), .long p3, .long p4, .long p5, .long p6, .long p7, .long p8]))] := hD
  exact us_vret hQ (by decide) (by decide) hx hb hr hlk hK hS () rfl (by simp) hP hD d_State_become_64

set_option maxHeartbeats 4000000 in
set_option maxRecDepth 100000 in
theorem c_State_fits (zl : Launch) (dC : Nat → ClassId) (dI : Nat → Nat → Nat) (cI cL cS cR : ClassId) (h : Nat) (t : Nat) (a : Int32) (op : Bool) (fr : Bool) (li : Int64) (ba : Int64) (to : Int64) (mo : Int64) (od : Int64) (ch : Int64) (ht : t < 6) : us_Met (S := Int32) zl y_State_fits w_State_fits ({ frames := 0, cells := 0, slots := 0, locals := 0 }) (dC, dI) vwCl (us_ty cI cL cS cR) [.ref h, .int (nI t), .int a] [(h, .inr (1, [.int (us_b op), .int (us_b fr), .long li, .long ba, .long to, .long mo, .long od, .long ch]))] (fun u => some (.int u)) (fun u => u = us_b (us_fits (op, fr, li, ba, to, mo, od, ch) t a)) (fun u => [(h, .inr (1, [.int (us_b op), .int (us_b fr), .long li, .long ba, .long to, .long mo, .long od, .long ch]))]) := by
  refine us_ofW (cc := b_State_fits) (maxL := 3) (ret := (some .boolean)) (by decide) (Nat.le_of_ble_eq_true rfl) ?_
  intro zp ze zs zm args below meth zc zA ls zQ hQ hx hb hr hml hts hown hlk hin hl hK hP hD hS hA
  have hown : zs.vm.findClass "UpcastStreams$State" = some zm.cls := hown
  have hl : lv_has ls 3 [(0, .ref h), (1, .int (nI t)), (2, .int a)] := hl
  obtain ⟨H, hH⟩ : ∃ H, H = zs.heap := ⟨_, rfl⟩
  rw [← hH] at hP ⊢
  have hS : va_S zA zs.heap H [] := hH ▸ hS
  generalize ([] : List Loc) = locs at hS ⊢
  rcases (show t = 0 ∨ t = 1 ∨ t = 2 ∨ t = 3 ∨ t = 4 ∨ t = 5 by omega) with rfl | rfl | rfl | rfl | rfl | rfl
  · cases op
    · cases fr
      · refine lv_iload_n hx hb d_State_fits_0 rfl (lv_at hl 1 rfl) ?_
        refine lv_tableIn (off := (39 : Int)) (tgt := 40) hx hb d_State_fits_1 (by decide) (by decide) (by decide) (by decide) ?_
        refine lv_aload_n hx hb d_State_fits_40 rfl (lv_at hl 0 rfl) ?_
        refine va_get (D := (dC, dI)) (ci := 1) (v := .int (us_b false)) (C := "UpcastStreams$State") (T := F_State) (N := 8) hx hb hts in_State hown hK hP 0 rfl rfl 0 (by decide) (hts _ uw_1_134) (fun _ h9 => h9) rfl d_State_fits_41 ?_
        refine lv_if_ne (tgt := 51) hx hb d_State_fits_44 (by decide) (fun h => absurd h (by decide)) (fun c1 => ?_)
        refine lv_iconst (v := (1 : Int32)) hx hb d_State_fits_47 (by decide) ?_
        refine lv_goto (tgt := 52) hx hb d_State_fits_48 (by decide) ?_
        exact us_zret hQ (by decide) (by decide) hx hb hr hlk hK hS (1 : Int32) (by decide) rfl (by first | (simp_all [us_fits, us_b, us_cmp_lt, us_cmp_eq, Int32.not_lt, Int64.not_lt]; done) | (simp_all [us_fits, us_b, us_cmp_lt, us_cmp_eq, Int32.not_lt, Int64.not_lt]; intro hh; exact absurd hh (Int32.not_le.mpr ca))) hP hD d_State_fits_52
      · refine lv_iload_n hx hb d_State_fits_0 rfl (lv_at hl 1 rfl) ?_
        refine lv_tableIn (off := (39 : Int)) (tgt := 40) hx hb d_State_fits_1 (by decide) (by decide) (by decide) (by decide) ?_
        refine lv_aload_n hx hb d_State_fits_40 rfl (lv_at hl 0 rfl) ?_
        refine va_get (D := (dC, dI)) (ci := 1) (v := .int (us_b false)) (C := "UpcastStreams$State") (T := F_State) (N := 8) hx hb hts in_State hown hK hP 0 rfl rfl 0 (by decide) (hts _ uw_1_134) (fun _ h9 => h9) rfl d_State_fits_41 ?_
        refine lv_if_ne (tgt := 51) hx hb d_State_fits_44 (by decide) (fun h => absurd h (by decide)) (fun c2 => ?_)
        refine lv_iconst (v := (1 : Int32)) hx hb d_State_fits_47 (by decide) ?_
        refine lv_goto (tgt := 52) hx hb d_State_fits_48 (by decide) ?_
        exact us_zret hQ (by decide) (by decide) hx hb hr hlk hK hS (1 : Int32) (by decide) rfl (by first | (simp_all [us_fits, us_b, us_cmp_lt, us_cmp_eq, Int32.not_lt, Int64.not_lt]; done) | (simp_all [us_fits, us_b, us_cmp_lt, us_cmp_eq, Int32.not_lt, Int64.not_lt]; intro hh; exact absurd hh (Int32.not_le.mpr ca))) hP hD d_State_fits_52
    · cases fr
      · refine lv_iload_n hx hb d_State_fits_0 rfl (lv_at hl 1 rfl) ?_
        refine lv_tableIn (off := (39 : Int)) (tgt := 40) hx hb d_State_fits_1 (by decide) (by decide) (by decide) (by decide) ?_
        refine lv_aload_n hx hb d_State_fits_40 rfl (lv_at hl 0 rfl) ?_
        refine va_get (D := (dC, dI)) (ci := 1) (v := .int (us_b true)) (C := "UpcastStreams$State") (T := F_State) (N := 8) hx hb hts in_State hown hK hP 0 rfl rfl 0 (by decide) (hts _ uw_1_134) (fun _ h9 => h9) rfl d_State_fits_41 ?_
        refine lv_if_ne (tgt := 51) hx hb d_State_fits_44 (by decide) (fun c3 => ?_) (fun h => absurd h (by decide))
        refine lv_iconst (v := (0 : Int32)) hx hb d_State_fits_51 (by decide) ?_
        exact us_zret hQ (by decide) (by decide) hx hb hr hlk hK hS (0 : Int32) (by decide) rfl (by first | (simp_all [us_fits, us_b, us_cmp_lt, us_cmp_eq, Int32.not_lt, Int64.not_lt]; done) | (simp_all [us_fits, us_b, us_cmp_lt, us_cmp_eq, Int32.not_lt, Int64.not_lt]; intro hh; exact absurd hh (Int32.not_le.mpr ca))) hP hD d_State_fits_52
      · refine lv_iload_n hx hb d_State_fits_0 rfl (lv_at hl 1 rfl) ?_
        refine lv_tableIn (off := (39 : Int)) (tgt := 40) hx hb d_State_fits_1 (by decide) (by decide) (by decide) (by decide) ?_
        refine lv_aload_n hx hb d_State_fits_40 rfl (lv_at hl 0 rfl) ?_
        refine va_get (D := (dC, dI)) (ci := 1) (v := .int (us_b true)) (C := "UpcastStreams$State") (T := F_State) (N := 8) hx hb hts in_State hown hK hP 0 rfl rfl 0 (by decide) (hts _ uw_1_134) (fun _ h9 => h9) rfl d_State_fits_41 ?_
        refine lv_if_ne (tgt := 51) hx hb d_State_fits_44 (by decide) (fun c4 => ?_) (fun h => absurd h (by decide))
        refine lv_iconst (v := (0 : Int32)) hx hb d_State_fits_51 (by decide) ?_
        exact us_zret hQ (by decide) (by decide) hx hb hr hlk hK hS (0 : Int32) (by decide) rfl (by first | (simp_all [us_fits, us_b, us_cmp_lt, us_cmp_eq, Int32.not_lt, Int64.not_lt]; done) | (simp_all [us_fits, us_b, us_cmp_lt, us_cmp_eq, Int32.not_lt, Int64.not_lt]; intro hh; exact absurd hh (Int32.not_le.mpr ca))) hP hD d_State_fits_52
  · cases op
    · cases fr
      · refine lv_iload_n hx hb d_State_fits_0 rfl (lv_at hl 1 rfl) ?_
        refine lv_tableIn (off := (52 : Int)) (tgt := 53) hx hb d_State_fits_1 (by decide) (by decide) (by decide) (by decide) ?_
        refine lv_aload_n hx hb d_State_fits_53 rfl (lv_at hl 0 rfl) ?_
        refine va_get (D := (dC, dI)) (ci := 1) (v := .int (us_b false)) (C := "UpcastStreams$State") (T := F_State) (N := 8) hx hb hts in_State hown hK hP 0 rfl rfl 0 (by decide) (hts _ uw_1_134) (fun _ h9 => h9) rfl d_State_fits_54 ?_
        refine lv_if_eq (tgt := 75) hx hb d_State_fits_57 (by decide) (fun c5 => ?_) (fun h => absurd h (by decide))
        refine lv_iconst (v := (0 : Int32)) hx hb d_State_fits_75 (by decide) ?_
        exact us_zret hQ (by decide) (by decide) hx hb hr hlk hK hS (0 : Int32) (by decide) rfl (by first | (simp_all [us_fits, us_b, us_cmp_lt, us_cmp_eq, Int32.not_lt, Int64.not_lt]; done) | (simp_all [us_fits, us_b, us_cmp_lt, us_cmp_eq, Int32.not_lt, Int64.not_lt]; intro hh; exact absurd hh (Int32.not_le.mpr ca))) hP hD d_State_fits_76
      · refine lv_iload_n hx hb d_State_fits_0 rfl (lv_at hl 1 rfl) ?_
        refine lv_tableIn (off := (52 : Int)) (tgt := 53) hx hb d_State_fits_1 (by decide) (by decide) (by decide) (by decide) ?_
        refine lv_aload_n hx hb d_State_fits_53 rfl (lv_at hl 0 rfl) ?_
        refine va_get (D := (dC, dI)) (ci := 1) (v := .int (us_b false)) (C := "UpcastStreams$State") (T := F_State) (N := 8) hx hb hts in_State hown hK hP 0 rfl rfl 0 (by decide) (hts _ uw_1_134) (fun _ h9 => h9) rfl d_State_fits_54 ?_
        refine lv_if_eq (tgt := 75) hx hb d_State_fits_57 (by decide) (fun c6 => ?_) (fun h => absurd h (by decide))
        refine lv_iconst (v := (0 : Int32)) hx hb d_State_fits_75 (by decide) ?_
        exact us_zret hQ (by decide) (by decide) hx hb hr hlk hK hS (0 : Int32) (by decide) rfl (by first | (simp_all [us_fits, us_b, us_cmp_lt, us_cmp_eq, Int32.not_lt, Int64.not_lt]; done) | (simp_all [us_fits, us_b, us_cmp_lt, us_cmp_eq, Int32.not_lt, Int64.not_lt]; intro hh; exact absurd hh (Int32.not_le.mpr ca))) hP hD d_State_fits_76
    · cases fr
      · refine lv_iload_n hx hb d_State_fits_0 rfl (lv_at hl 1 rfl) ?_
        refine lv_tableIn (off := (52 : Int)) (tgt := 53) hx hb d_State_fits_1 (by decide) (by decide) (by decide) (by decide) ?_
        refine lv_aload_n hx hb d_State_fits_53 rfl (lv_at hl 0 rfl) ?_
        refine va_get (D := (dC, dI)) (ci := 1) (v := .int (us_b true)) (C := "UpcastStreams$State") (T := F_State) (N := 8) hx hb hts in_State hown hK hP 0 rfl rfl 0 (by decide) (hts _ uw_1_134) (fun _ h9 => h9) rfl d_State_fits_54 ?_
        refine lv_if_eq (tgt := 75) hx hb d_State_fits_57 (by decide) (fun h => absurd h (by decide)) (fun c7 => ?_)
        refine lv_aload_n hx hb d_State_fits_60 rfl (lv_at hl 0 rfl) ?_
        refine va_get (D := (dC, dI)) (ci := 1) (v := .int (us_b false)) (C := "UpcastStreams$State") (T := F_State) (N := 8) hx hb hts in_State hown hK hP 0 rfl rfl 1 (by decide) (hts _ uw_1_135) (fun _ h9 => h9) rfl d_State_fits_61 ?_
        refine lv_if_ne (tgt := 75) hx hb d_State_fits_64 (by decide) (fun h => absurd h (by decide)) (fun c8 => ?_)
        refine lv_iload_n hx hb d_State_fits_67 rfl (lv_at hl 2 rfl) ?_
        refine lv_if_lt (tgt := 75) hx hb d_State_fits_68 (by decide) (fun ca => ?_) (fun ca => ?_)
        · refine lv_iconst (v := (0 : Int32)) hx hb d_State_fits_75 (by decide) ?_
          exact us_zret hQ (by decide) (by decide) hx hb hr hlk hK hS (0 : Int32) (by decide) rfl (by first | (simp_all [us_fits, us_b, us_cmp_lt, us_cmp_eq, Int32.not_lt, Int64.not_lt]; done) | (simp_all [us_fits, us_b, us_cmp_lt, us_cmp_eq, Int32.not_lt, Int64.not_lt]; intro hh; exact absurd hh (Int32.not_le.mpr ca))) hP hD d_State_fits_76
        · refine lv_iconst (v := (1 : Int32)) hx hb d_State_fits_71 (by decide) ?_
          refine lv_goto (tgt := 76) hx hb d_State_fits_72 (by decide) ?_
          exact us_zret hQ (by decide) (by decide) hx hb hr hlk hK hS (1 : Int32) (by decide) rfl (by first | (simp_all [us_fits, us_b, us_cmp_lt, us_cmp_eq, Int32.not_lt, Int64.not_lt]; done) | (simp_all [us_fits, us_b, us_cmp_lt, us_cmp_eq, Int32.not_lt, Int64.not_lt]; intro hh; exact absurd hh (Int32.not_le.mpr ca))) hP hD d_State_fits_76
      · refine lv_iload_n hx hb d_State_fits_0 rfl (lv_at hl 1 rfl) ?_
        refine lv_tableIn (off := (52 : Int)) (tgt := 53) hx hb d_State_fits_1 (by decide) (by decide) (by decide) (by decide) ?_
        refine lv_aload_n hx hb d_State_fits_53 rfl (lv_at hl 0 rfl) ?_
        refine va_get (D := (dC, dI)) (ci := 1) (v := .int (us_b true)) (C := "UpcastStreams$State") (T := F_State) (N := 8) hx hb hts in_State hown hK hP 0 rfl rfl 0 (by decide) (hts _ uw_1_134) (fun _ h9 => h9) rfl d_State_fits_54 ?_
        refine lv_if_eq (tgt := 75) hx hb d_State_fits_57 (by decide) (fun h => absurd h (by decide)) (fun c10 => ?_)
        refine lv_aload_n hx hb d_State_fits_60 rfl (lv_at hl 0 rfl) ?_
        refine va_get (D := (dC, dI)) (ci := 1) (v := .int (us_b true)) (C := "UpcastStreams$State") (T := F_State) (N := 8) hx hb hts in_State hown hK hP 0 rfl rfl 1 (by decide) (hts _ uw_1_135) (fun _ h9 => h9) rfl d_State_fits_61 ?_
        refine lv_if_ne (tgt := 75) hx hb d_State_fits_64 (by decide) (fun c11 => ?_) (fun h => absurd h (by decide))
        refine lv_iconst (v := (0 : Int32)) hx hb d_State_fits_75 (by decide) ?_
        exact us_zret hQ (by decide) (by decide) hx hb hr hlk hK hS (0 : Int32) (by decide) rfl (by first | (simp_all [us_fits, us_b, us_cmp_lt, us_cmp_eq, Int32.not_lt, Int64.not_lt]; done) | (simp_all [us_fits, us_b, us_cmp_lt, us_cmp_eq, Int32.not_lt, Int64.not_lt]; intro hh; exact absurd hh (Int32.not_le.mpr ca))) hP hD d_State_fits_76
  · cases op
    · cases fr
      · refine lv_iload_n hx hb d_State_fits_0 rfl (lv_at hl 1 rfl) ?_
        refine lv_tableIn (off := (76 : Int)) (tgt := 77) hx hb d_State_fits_1 (by decide) (by decide) (by decide) (by decide) ?_
        refine lv_aload_n hx hb d_State_fits_77 rfl (lv_at hl 0 rfl) ?_
        refine va_get (D := (dC, dI)) (ci := 1) (v := .int (us_b false)) (C := "UpcastStreams$State") (T := F_State) (N := 8) hx hb hts in_State hown hK hP 0 rfl rfl 0 (by decide) (hts _ uw_1_134) (fun _ h9 => h9) rfl d_State_fits_78 ?_
        refine lv_if_eq (tgt := 114) hx hb d_State_fits_81 (by decide) (fun c12 => ?_) (fun h => absurd h (by decide))
        refine lv_iconst (v := (0 : Int32)) hx hb d_State_fits_114 (by decide) ?_
        exact us_zret hQ (by decide) (by decide) hx hb hr hlk hK hS (0 : Int32) (by decide) rfl (by first | (simp_all [us_fits, us_b, us_cmp_lt, us_cmp_eq, Int32.not_lt, Int64.not_lt]; done) | (simp_all [us_fits, us_b, us_cmp_lt, us_cmp_eq, Int32.not_lt, Int64.not_lt]; intro hh; exact absurd hh (Int32.not_le.mpr ca))) hP hD d_State_fits_115
      · refine lv_iload_n hx hb d_State_fits_0 rfl (lv_at hl 1 rfl) ?_
        refine lv_tableIn (off := (76 : Int)) (tgt := 77) hx hb d_State_fits_1 (by decide) (by decide) (by decide) (by decide) ?_
        refine lv_aload_n hx hb d_State_fits_77 rfl (lv_at hl 0 rfl) ?_
        refine va_get (D := (dC, dI)) (ci := 1) (v := .int (us_b false)) (C := "UpcastStreams$State") (T := F_State) (N := 8) hx hb hts in_State hown hK hP 0 rfl rfl 0 (by decide) (hts _ uw_1_134) (fun _ h9 => h9) rfl d_State_fits_78 ?_
        refine lv_if_eq (tgt := 114) hx hb d_State_fits_81 (by decide) (fun c13 => ?_) (fun h => absurd h (by decide))
        refine lv_iconst (v := (0 : Int32)) hx hb d_State_fits_114 (by decide) ?_
        exact us_zret hQ (by decide) (by decide) hx hb hr hlk hK hS (0 : Int32) (by decide) rfl (by first | (simp_all [us_fits, us_b, us_cmp_lt, us_cmp_eq, Int32.not_lt, Int64.not_lt]; done) | (simp_all [us_fits, us_b, us_cmp_lt, us_cmp_eq, Int32.not_lt, Int64.not_lt]; intro hh; exact absurd hh (Int32.not_le.mpr ca))) hP hD d_State_fits_115
    · cases fr
      · refine lv_iload_n hx hb d_State_fits_0 rfl (lv_at hl 1 rfl) ?_
        refine lv_tableIn (off := (76 : Int)) (tgt := 77) hx hb d_State_fits_1 (by decide) (by decide) (by decide) (by decide) ?_
        refine lv_aload_n hx hb d_State_fits_77 rfl (lv_at hl 0 rfl) ?_
        refine va_get (D := (dC, dI)) (ci := 1) (v := .int (us_b true)) (C := "UpcastStreams$State") (T := F_State) (N := 8) hx hb hts in_State hown hK hP 0 rfl rfl 0 (by decide) (hts _ uw_1_134) (fun _ h9 => h9) rfl d_State_fits_78 ?_
        refine lv_if_eq (tgt := 114) hx hb d_State_fits_81 (by decide) (fun h => absurd h (by decide)) (fun c14 => ?_)
        refine lv_aload_n hx hb d_State_fits_84 rfl (lv_at hl 0 rfl) ?_
        refine va_get (D := (dC, dI)) (ci := 1) (v := .int (us_b false)) (C := "UpcastStreams$State") (T := F_State) (N := 8) hx hb hts in_State hown hK hP 0 rfl rfl 1 (by decide) (hts _ uw_1_135) (fun _ h9 => h9) rfl d_State_fits_85 ?_
        refine lv_if_ne (tgt := 114) hx hb d_State_fits_88 (by decide) (fun h => absurd h (by decide)) (fun c15 => ?_)
        refine lv_iload_n hx hb d_State_fits_91 rfl (lv_at hl 2 rfl) ?_
        refine lv_if_lt (tgt := 114) hx hb d_State_fits_92 (by decide) (fun ca => ?_) (fun ca => ?_)
        · refine lv_iconst (v := (0 : Int32)) hx hb d_State_fits_114 (by decide) ?_
          exact us_zret hQ (by decide) (by decide) hx hb hr hlk hK hS (0 : Int32) (by decide) rfl (by first | (simp_all [us_fits, us_b, us_cmp_lt, us_cmp_eq, Int32.not_lt, Int64.not_lt]; done) | (simp_all [us_fits, us_b, us_cmp_lt, us_cmp_eq, Int32.not_lt, Int64.not_lt]; intro hh; exact absurd hh (Int32.not_le.mpr ca))) hP hD d_State_fits_115
        · refine lv_aload_n hx hb d_State_fits_95 rfl (lv_at hl 0 rfl) ?_
          refine va_get (D := (dC, dI)) (ci := 1) (v := .long ba) (C := "UpcastStreams$State") (T := F_State) (N := 8) hx hb hts in_State hown hK hP 0 rfl rfl 3 (by decide) (hts _ uw_1_137) (fun _ h9 => h9) rfl d_State_fits_96 ?_
          refine lv_aload_n hx hb d_State_fits_99 rfl (lv_at hl 0 rfl) ?_
          refine va_get (D := (dC, dI)) (ci := 1) (v := .long li) (C := "UpcastStreams$State") (T := F_State) (N := 8) hx hb hts in_State hown hK hP 0 rfl rfl 2 (by decide) (hts _ uw_1_136) (fun _ h9 => h9) rfl d_State_fits_100 ?_
          refine lv_ladd hx hb d_State_fits_103 ?_
          refine lv_iload_n hx hb d_State_fits_104 rfl (lv_at hl 2 rfl) ?_
          refine lv_i2l (v := a.toInt64) hx hb d_State_fits_105 rfl ?_
          refine W.lcmp hx hb d_State_fits_106 ?_
          refine lv_if_lt (tgt := 114) hx hb d_State_fits_107 (by decide) (fun c17 => ?_) (fun c17 => ?_)
          · refine lv_iconst (v := (0 : Int32)) hx hb d_State_fits_114 (by decide) ?_
            exact us_zret hQ (by decide) (by decide) hx hb hr hlk hK hS (0 : Int32) (by decide) rfl (by first | (simp_all [us_fits, us_b, us_cmp_lt, us_cmp_eq, Int32.not_lt, Int64.not_lt]; done) | (simp_all [us_fits, us_b, us_cmp_lt, us_cmp_eq, Int32.not_lt, Int64.not_lt]; intro hh; exact absurd hh (Int32.not_le.mpr ca))) hP hD d_State_fits_115
          · refine lv_iconst (v := (1 : Int32)) hx hb d_State_fits_110 (by decide) ?_
            refine lv_goto (tgt := 115) hx hb d_State_fits_111 (by decide) ?_
            exact us_zret hQ (by decide) (by decide) hx hb hr hlk hK hS (1 : Int32) (by decide) rfl (by first | (simp_all [us_fits, us_b, us_cmp_lt, us_cmp_eq, Int32.not_lt, Int64.not_lt]; done) | (simp_all [us_fits, us_b, us_cmp_lt, us_cmp_eq, Int32.not_lt, Int64.not_lt]; intro hh; exact absurd hh (Int32.not_le.mpr ca))) hP hD d_State_fits_115
      · refine lv_iload_n hx hb d_State_fits_0 rfl (lv_at hl 1 rfl) ?_
        refine lv_tableIn (off := (76 : Int)) (tgt := 77) hx hb d_State_fits_1 (by decide) (by decide) (by decide) (by decide) ?_
        refine lv_aload_n hx hb d_State_fits_77 rfl (lv_at hl 0 rfl) ?_
        refine va_get (D := (dC, dI)) (ci := 1) (v := .int (us_b true)) (C := "UpcastStreams$State") (T := F_State) (N := 8) hx hb hts in_State hown hK hP 0 rfl rfl 0 (by decide) (hts _ uw_1_134) (fun _ h9 => h9) rfl d_State_fits_78 ?_
        refine lv_if_eq (tgt := 114) hx hb d_State_fits_81 (by decide) (fun h => absurd h (by decide)) (fun c18 => ?_)
        refine lv_aload_n hx hb d_State_fits_84 rfl (lv_at hl 0 rfl) ?_
        refine va_get (D := (dC, dI)) (ci := 1) (v := .int (us_b true)) (C := "UpcastStreams$State") (T := F_State) (N := 8) hx hb hts in_State hown hK hP 0 rfl rfl 1 (by decide) (hts _ uw_1_135) (fun _ h9 => h9) rfl d_State_fits_85 ?_
        refine lv_if_ne (tgt := 114) hx hb d_State_fits_88 (by decide) (fun c19 => ?_) (fun h => absurd h (by decide))
        refine lv_iconst (v := (0 : Int32)) hx hb d_State_fits_114 (by decide) ?_
        exact us_zret hQ (by decide) (by decide) hx hb hr hlk hK hS (0 : Int32) (by decide) rfl (by first | (simp_all [us_fits, us_b, us_cmp_lt, us_cmp_eq, Int32.not_lt, Int64.not_lt]; done) | (simp_all [us_fits, us_b, us_cmp_lt, us_cmp_eq, Int32.not_lt, Int64.not_lt]; intro hh; exact absurd hh (Int32.not_le.mpr ca))) hP hD d_State_fits_115
  · cases op
    · cases fr
      · refine lv_iload_n hx hb d_State_fits_0 rfl (lv_at hl 1 rfl) ?_
        refine lv_tableIn (off := (115 : Int)) (tgt := 116) hx hb d_State_fits_1 (by decide) (by decide) (by decide) (by decide) ?_
        refine lv_aload_n hx hb d_State_fits_116 rfl (lv_at hl 0 rfl) ?_
        refine va_get (D := (dC, dI)) (ci := 1) (v := .int (us_b false)) (C := "UpcastStreams$State") (T := F_State) (N := 8) hx hb hts in_State hown hK hP 0 rfl rfl 0 (by decide) (hts _ uw_1_134) (fun _ h9 => h9) rfl d_State_fits_117 ?_
        refine lv_if_eq (tgt := 134) hx hb d_State_fits_120 (by decide) (fun c20 => ?_) (fun h => absurd h (by decide))
        refine lv_iconst (v := (0 : Int32)) hx hb d_State_fits_134 (by decide) ?_
        exact us_zret hQ (by decide) (by decide) hx hb hr hlk hK hS (0 : Int32) (by decide) rfl (by first | (simp_all [us_fits, us_b, us_cmp_lt, us_cmp_eq, Int32.not_lt, Int64.not_lt]; done) | (simp_all [us_fits, us_b, us_cmp_lt, us_cmp_eq, Int32.not_lt, Int64.not_lt]; intro hh; exact absurd hh (Int32.not_le.mpr ca))) hP hD d_State_fits_135
      · refine lv_iload_n hx hb d_State_fits_0 rfl (lv_at hl 1 rfl) ?_
        refine lv_tableIn (off := (115 : Int)) (tgt := 116) hx hb d_State_fits_1 (by decide) (by decide) (by decide) (by decide) ?_
        refine lv_aload_n hx hb d_State_fits_116 rfl (lv_at hl 0 rfl) ?_
        refine va_get (D := (dC, dI)) (ci := 1) (v := .int (us_b false)) (C := "UpcastStreams$State") (T := F_State) (N := 8) hx hb hts in_State hown hK hP 0 rfl rfl 0 (by decide) (hts _ uw_1_134) (fun _ h9 => h9) rfl d_State_fits_117 ?_
        refine lv_if_eq (tgt := 134) hx hb d_State_fits_120 (by decide) (fun c21 => ?_) (fun h => absurd h (by decide))
        refine lv_iconst (v := (0 : Int32)) hx hb d_State_fits_134 (by decide) ?_
        exact us_zret hQ (by decide) (by decide) hx hb hr hlk hK hS (0 : Int32) (by decide) rfl (by first | (simp_all [us_fits, us_b, us_cmp_lt, us_cmp_eq, Int32.not_lt, Int64.not_lt]; done) | (simp_all [us_fits, us_b, us_cmp_lt, us_cmp_eq, Int32.not_lt, Int64.not_lt]; intro hh; exact absurd hh (Int32.not_le.mpr ca))) hP hD d_State_fits_135
    · cases fr
      · refine lv_iload_n hx hb d_State_fits_0 rfl (lv_at hl 1 rfl) ?_
        refine lv_tableIn (off := (115 : Int)) (tgt := 116) hx hb d_State_fits_1 (by decide) (by decide) (by decide) (by decide) ?_
        refine lv_aload_n hx hb d_State_fits_116 rfl (lv_at hl 0 rfl) ?_
        refine va_get (D := (dC, dI)) (ci := 1) (v := .int (us_b true)) (C := "UpcastStreams$State") (T := F_State) (N := 8) hx hb hts in_State hown hK hP 0 rfl rfl 0 (by decide) (hts _ uw_1_134) (fun _ h9 => h9) rfl d_State_fits_117 ?_
        refine lv_if_eq (tgt := 134) hx hb d_State_fits_120 (by decide) (fun h => absurd h (by decide)) (fun c22 => ?_)
        refine lv_aload_n hx hb d_State_fits_123 rfl (lv_at hl 0 rfl) ?_
        refine va_get (D := (dC, dI)) (ci := 1) (v := .int (us_b false)) (C := "UpcastStreams$State") (T := F_State) (N := 8) hx hb hts in_State hown hK hP 0 rfl rfl 1 (by decide) (hts _ uw_1_135) (fun _ h9 => h9) rfl d_State_fits_124 ?_
        refine lv_if_ne (tgt := 134) hx hb d_State_fits_127 (by decide) (fun h => absurd h (by decide)) (fun c23 => ?_)
        refine lv_iconst (v := (1 : Int32)) hx hb d_State_fits_130 (by decide) ?_
        refine lv_goto (tgt := 135) hx hb d_State_fits_131 (by decide) ?_
        exact us_zret hQ (by decide) (by decide) hx hb hr hlk hK hS (1 : Int32) (by decide) rfl (by first | (simp_all [us_fits, us_b, us_cmp_lt, us_cmp_eq, Int32.not_lt, Int64.not_lt]; done) | (simp_all [us_fits, us_b, us_cmp_lt, us_cmp_eq, Int32.not_lt, Int64.not_lt]; intro hh; exact absurd hh (Int32.not_le.mpr ca))) hP hD d_State_fits_135
      · refine lv_iload_n hx hb d_State_fits_0 rfl (lv_at hl 1 rfl) ?_
        refine lv_tableIn (off := (115 : Int)) (tgt := 116) hx hb d_State_fits_1 (by decide) (by decide) (by decide) (by decide) ?_
        refine lv_aload_n hx hb d_State_fits_116 rfl (lv_at hl 0 rfl) ?_
        refine va_get (D := (dC, dI)) (ci := 1) (v := .int (us_b true)) (C := "UpcastStreams$State") (T := F_State) (N := 8) hx hb hts in_State hown hK hP 0 rfl rfl 0 (by decide) (hts _ uw_1_134) (fun _ h9 => h9) rfl d_State_fits_117 ?_
        refine lv_if_eq (tgt := 134) hx hb d_State_fits_120 (by decide) (fun h => absurd h (by decide)) (fun c24 => ?_)
        refine lv_aload_n hx hb d_State_fits_123 rfl (lv_at hl 0 rfl) ?_
        refine va_get (D := (dC, dI)) (ci := 1) (v := .int (us_b true)) (C := "UpcastStreams$State") (T := F_State) (N := 8) hx hb hts in_State hown hK hP 0 rfl rfl 1 (by decide) (hts _ uw_1_135) (fun _ h9 => h9) rfl d_State_fits_124 ?_
        refine lv_if_ne (tgt := 134) hx hb d_State_fits_127 (by decide) (fun c25 => ?_) (fun h => absurd h (by decide))
        refine lv_iconst (v := (0 : Int32)) hx hb d_State_fits_134 (by decide) ?_
        exact us_zret hQ (by decide) (by decide) hx hb hr hlk hK hS (0 : Int32) (by decide) rfl (by first | (simp_all [us_fits, us_b, us_cmp_lt, us_cmp_eq, Int32.not_lt, Int64.not_lt]; done) | (simp_all [us_fits, us_b, us_cmp_lt, us_cmp_eq, Int32.not_lt, Int64.not_lt]; intro hh; exact absurd hh (Int32.not_le.mpr ca))) hP hD d_State_fits_135
  · cases op
    · cases fr
      · refine lv_iload_n hx hb d_State_fits_0 rfl (lv_at hl 1 rfl) ?_
        refine lv_tableIn (off := (135 : Int)) (tgt := 136) hx hb d_State_fits_1 (by decide) (by decide) (by decide) (by decide) ?_
        refine lv_aload_n hx hb d_State_fits_136 rfl (lv_at hl 0 rfl) ?_
        refine va_get (D := (dC, dI)) (ci := 1) (v := .int (us_b false)) (C := "UpcastStreams$State") (T := F_State) (N := 8) hx hb hts in_State hown hK hP 0 rfl rfl 1 (by decide) (hts _ uw_1_135) (fun _ h9 => h9) rfl d_State_fits_137 ?_
        exact us_zret hQ (by decide) (by decide) hx hb hr hlk hK hS (us_b false) (by decide) rfl (by first | (simp_all [us_fits, us_b, us_cmp_lt, us_cmp_eq, Int32.not_lt, Int64.not_lt]; done) | (simp_all [us_fits, us_b, us_cmp_lt, us_cmp_eq, Int32.not_lt, Int64.not_lt]; intro hh; exact absurd hh (Int32.not_le.mpr ca))) hP hD d_State_fits_140
      · refine lv_iload_n hx hb d_State_fits_0 rfl (lv_at hl 1 rfl) ?_
        refine lv_tableIn (off := (135 : Int)) (tgt := 136) hx hb d_State_fits_1 (by decide) (by decide) (by decide) (by decide) ?_
        refine lv_aload_n hx hb d_State_fits_136 rfl (lv_at hl 0 rfl) ?_
        refine va_get (D := (dC, dI)) (ci := 1) (v := .int (us_b true)) (C := "UpcastStreams$State") (T := F_State) (N := 8) hx hb hts in_State hown hK hP 0 rfl rfl 1 (by decide) (hts _ uw_1_135) (fun _ h9 => h9) rfl d_State_fits_137 ?_
        exact us_zret hQ (by decide) (by decide) hx hb hr hlk hK hS (us_b true) (by decide) rfl (by first | (simp_all [us_fits, us_b, us_cmp_lt, us_cmp_eq, Int32.not_lt, Int64.not_lt]; done) | (simp_all [us_fits, us_b, us_cmp_lt, us_cmp_eq, Int32.not_lt, Int64.not_lt]; intro hh; exact absurd hh (Int32.not_le.mpr ca))) hP hD d_State_fits_140
    · cases fr
      · refine lv_iload_n hx hb d_State_fits_0 rfl (lv_at hl 1 rfl) ?_
        refine lv_tableIn (off := (135 : Int)) (tgt := 136) hx hb d_State_fits_1 (by decide) (by decide) (by decide) (by decide) ?_
        refine lv_aload_n hx hb d_State_fits_136 rfl (lv_at hl 0 rfl) ?_
        refine va_get (D := (dC, dI)) (ci := 1) (v := .int (us_b false)) (C := "UpcastStreams$State") (T := F_State) (N := 8) hx hb hts in_State hown hK hP 0 rfl rfl 1 (by decide) (hts _ uw_1_135) (fun _ h9 => h9) rfl d_State_fits_137 ?_
        exact us_zret hQ (by decide) (by decide) hx hb hr hlk hK hS (us_b false) (by decide) rfl (by first | (simp_all [us_fits, us_b, us_cmp_lt, us_cmp_eq, Int32.not_lt, Int64.not_lt]; done) | (simp_all [us_fits, us_b, us_cmp_lt, us_cmp_eq, Int32.not_lt, Int64.not_lt]; intro hh; exact absurd hh (Int32.not_le.mpr ca))) hP hD d_State_fits_140
      · refine lv_iload_n hx hb d_State_fits_0 rfl (lv_at hl 1 rfl) ?_
        refine lv_tableIn (off := (135 : Int)) (tgt := 136) hx hb d_State_fits_1 (by decide) (by decide) (by decide) (by decide) ?_
        refine lv_aload_n hx hb d_State_fits_136 rfl (lv_at hl 0 rfl) ?_
        refine va_get (D := (dC, dI)) (ci := 1) (v := .int (us_b true)) (C := "UpcastStreams$State") (T := F_State) (N := 8) hx hb hts in_State hown hK hP 0 rfl rfl 1 (by decide) (hts _ uw_1_135) (fun _ h9 => h9) rfl d_State_fits_137 ?_
        exact us_zret hQ (by decide) (by decide) hx hb hr hlk hK hS (us_b true) (by decide) rfl (by first | (simp_all [us_fits, us_b, us_cmp_lt, us_cmp_eq, Int32.not_lt, Int64.not_lt]; done) | (simp_all [us_fits, us_b, us_cmp_lt, us_cmp_eq, Int32.not_lt, Int64.not_lt]; intro hh; exact absurd hh (Int32.not_le.mpr ca))) hP hD d_State_fits_140
  · cases op
    · cases fr
      · refine lv_iload_n hx hb d_State_fits_0 rfl (lv_at hl 1 rfl) ?_
        refine lv_tableIn (off := (140 : Int)) (tgt := 141) hx hb d_State_fits_1 (by decide) (by decide) (by decide) (by decide) ?_
        refine lv_aload_n hx hb d_State_fits_141 rfl (lv_at hl 0 rfl) ?_
        refine va_get (D := (dC, dI)) (ci := 1) (v := .int (us_b false)) (C := "UpcastStreams$State") (T := F_State) (N := 8) hx hb hts in_State hown hK hP 0 rfl rfl 0 (by decide) (hts _ uw_1_134) (fun _ h9 => h9) rfl d_State_fits_142 ?_
        refine lv_if_eq (tgt := 168) hx hb d_State_fits_145 (by decide) (fun c26 => ?_) (fun h => absurd h (by decide))
        refine lv_iconst (v := (0 : Int32)) hx hb d_State_fits_168 (by decide) ?_
        exact us_zret hQ (by decide) (by decide) hx hb hr hlk hK hS (0 : Int32) (by decide) rfl (by first | (simp_all [us_fits, us_b, us_cmp_lt, us_cmp_eq, Int32.not_lt, Int64.not_lt]; done) | (simp_all [us_fits, us_b, us_cmp_lt, us_cmp_eq, Int32.not_lt, Int64.not_lt]; intro hh; exact absurd hh (Int32.not_le.mpr ca))) hP hD d_State_fits_169
      · refine lv_iload_n hx hb d_State_fits_0 rfl (lv_at hl 1 rfl) ?_
        refine lv_tableIn (off := (140 : Int)) (tgt := 141) hx hb d_State_fits_1 (by decide) (by decide) (by decide) (by decide) ?_
        refine lv_aload_n hx hb d_State_fits_141 rfl (lv_at hl 0 rfl) ?_
        refine va_get (D := (dC, dI)) (ci := 1) (v := .int (us_b false)) (C := "UpcastStreams$State") (T := F_State) (N := 8) hx hb hts in_State hown hK hP 0 rfl rfl 0 (by decide) (hts _ uw_1_134) (fun _ h9 => h9) rfl d_State_fits_142 ?_
        refine lv_if_eq (tgt := 168) hx hb d_State_fits_145 (by decide) (fun c27 => ?_) (fun h => absurd h (by decide))
        refine lv_iconst (v := (0 : Int32)) hx hb d_State_fits_168 (by decide) ?_
        exact us_zret hQ (by decide) (by decide) hx hb hr hlk hK hS (0 : Int32) (by decide) rfl (by first | (simp_all [us_fits, us_b, us_cmp_lt, us_cmp_eq, Int32.not_lt, Int64.not_lt]; done) | (simp_all [us_fits, us_b, us_cmp_lt, us_cmp_eq, Int32.not_lt, Int64.not_lt]; intro hh; exact absurd hh (Int32.not_le.mpr ca))) hP hD d_State_fits_169
    · cases fr
      · refine lv_iload_n hx hb d_State_fits_0 rfl (lv_at hl 1 rfl) ?_
        refine lv_tableIn (off := (140 : Int)) (tgt := 141) hx hb d_State_fits_1 (by decide) (by decide) (by decide) (by decide) ?_
        refine lv_aload_n hx hb d_State_fits_141 rfl (lv_at hl 0 rfl) ?_
        refine va_get (D := (dC, dI)) (ci := 1) (v := .int (us_b true)) (C := "UpcastStreams$State") (T := F_State) (N := 8) hx hb hts in_State hown hK hP 0 rfl rfl 0 (by decide) (hts _ uw_1_134) (fun _ h9 => h9) rfl d_State_fits_142 ?_
        refine lv_if_eq (tgt := 168) hx hb d_State_fits_145 (by decide) (fun h => absurd h (by decide)) (fun c28 => ?_)
        refine lv_aload_n hx hb d_State_fits_148 rfl (lv_at hl 0 rfl) ?_
        refine va_get (D := (dC, dI)) (ci := 1) (v := .int (us_b false)) (C := "UpcastStreams$State") (T := F_State) (N := 8) hx hb hts in_State hown hK hP 0 rfl rfl 1 (by decide) (hts _ uw_1_135) (fun _ h9 => h9) rfl d_State_fits_149 ?_
        refine lv_if_ne (tgt := 168) hx hb d_State_fits_152 (by decide) (fun h => absurd h (by decide)) (fun c29 => ?_)
        refine lv_aload_n hx hb d_State_fits_155 rfl (lv_at hl 0 rfl) ?_
        refine va_get (D := (dC, dI)) (ci := 1) (v := .long ba) (C := "UpcastStreams$State") (T := F_State) (N := 8) hx hb hts in_State hown hK hP 0 rfl rfl 3 (by decide) (hts _ uw_1_137) (fun _ h9 => h9) rfl d_State_fits_156 ?_
        refine lv_lconst (v := (0 : Int64)) hx hb d_State_fits_159 (by decide) ?_
        refine W.lcmp hx hb d_State_fits_160 ?_
        refine lv_if_ne (tgt := 168) hx hb d_State_fits_161 (by decide) (fun c30 => ?_) (fun c30 => ?_)
        · refine lv_iconst (v := (0 : Int32)) hx hb d_State_fits_168 (by decide) ?_
          exact us_zret hQ (by decide) (by decide) hx hb hr hlk hK hS (0 : Int32) (by decide) rfl (by first | (simp_all [us_fits, us_b, us_cmp_lt, us_cmp_eq, Int32.not_lt, Int64.not_lt]; done) | (simp_all [us_fits, us_b, us_cmp_lt, us_cmp_eq, Int32.not_lt, Int64.not_lt]; intro hh; exact absurd hh (Int32.not_le.mpr ca))) hP hD d_State_fits_169
        · refine lv_iconst (v := (1 : Int32)) hx hb d_State_fits_164 (by decide) ?_
          refine lv_goto (tgt := 169) hx hb d_State_fits_165 (by decide) ?_
          exact us_zret hQ (by decide) (by decide) hx hb hr hlk hK hS (1 : Int32) (by decide) rfl (by first | (simp_all [us_fits, us_b, us_cmp_lt, us_cmp_eq, Int32.not_lt, Int64.not_lt]; done) | (simp_all [us_fits, us_b, us_cmp_lt, us_cmp_eq, Int32.not_lt, Int64.not_lt]; intro hh; exact absurd hh (Int32.not_le.mpr ca))) hP hD d_State_fits_169
      · refine lv_iload_n hx hb d_State_fits_0 rfl (lv_at hl 1 rfl) ?_
        refine lv_tableIn (off := (140 : Int)) (tgt := 141) hx hb d_State_fits_1 (by decide) (by decide) (by decide) (by decide) ?_
        refine lv_aload_n hx hb d_State_fits_141 rfl (lv_at hl 0 rfl) ?_
        refine va_get (D := (dC, dI)) (ci := 1) (v := .int (us_b true)) (C := "UpcastStreams$State") (T := F_State) (N := 8) hx hb hts in_State hown hK hP 0 rfl rfl 0 (by decide) (hts _ uw_1_134) (fun _ h9 => h9) rfl d_State_fits_142 ?_
        refine lv_if_eq (tgt := 168) hx hb d_State_fits_145 (by decide) (fun h => absurd h (by decide)) (fun c31 => ?_)
        refine lv_aload_n hx hb d_State_fits_148 rfl (lv_at hl 0 rfl) ?_
        refine va_get (D := (dC, dI)) (ci := 1) (v := .int (us_b true)) (C := "UpcastStreams$State") (T := F_State) (N := 8) hx hb hts in_State hown hK hP 0 rfl rfl 1 (by decide) (hts _ uw_1_135) (fun _ h9 => h9) rfl d_State_fits_149 ?_
        refine lv_if_ne (tgt := 168) hx hb d_State_fits_152 (by decide) (fun c32 => ?_) (fun h => absurd h (by decide))
        refine lv_iconst (v := (0 : Int32)) hx hb d_State_fits_168 (by decide) ?_
        exact us_zret hQ (by decide) (by decide) hx hb hr hlk hK hS (0 : Int32) (by decide) rfl (by first | (simp_all [us_fits, us_b, us_cmp_lt, us_cmp_eq, Int32.not_lt, Int64.not_lt]; done) | (simp_all [us_fits, us_b, us_cmp_lt, us_cmp_eq, Int32.not_lt, Int64.not_lt]; intro hh; exact absurd hh (Int32.not_le.mpr ca))) hP hD d_State_fits_169

set_option maxHeartbeats 4000000 in
set_option maxRecDepth 100000 in
theorem c_State_change (zl : Launch) (dC : Nat → ClassId) (dI : Nat → Nat → Nat) (cI cL cS cR : ClassId) (h : Nat) (t : Nat) (a : Int32) (op : Bool) (fr : Bool) (li : Int64) (ba : Int64) (to : Int64) (mo : Int64) (od : Int64) (ch : Int64) (ht : t < 6) : us_Met (S := Bool × Bool × Int64 × Int64 × Int64 × Int64 × Int64 × Int64) zl y_State_change w_State_change ({ frames := 0, cells := 0, slots := 0, locals := 0 }) (dC, dI) vwCl (us_ty cI cL cS cR) [.ref h, .int (nI t), .int a] [(h, .inr (1, [.int (us_b op), .int (us_b fr), .long li, .long ba, .long to, .long mo, .long od, .long ch]))] (fun _ => none) (fun u => (u.1, u.2.1, u.2.2.1, u.2.2.2.1, u.2.2.2.2.1, u.2.2.2.2.2.1, u.2.2.2.2.2.2.1, u.2.2.2.2.2.2.2) = us_chg (op, fr, li, ba, to, mo, od, ch) t a) (fun u => [(h, .inr (1, [.int (us_b u.1), .int (us_b u.2.1), .long u.2.2.1, .long u.2.2.2.1, .long u.2.2.2.2.1, .long u.2.2.2.2.2.1, .long u.2.2.2.2.2.2.1, .long u.2.2.2.2.2.2.2]))]) := by
  refine us_ofW (cc := b_State_change) (maxL := 3) (ret := none) (by decide) (Nat.le_of_ble_eq_true rfl) ?_
  intro zp ze zs zm args below meth zc zA ls zQ hQ hx hb hr hml hts hown hlk hin hl hK hP hD hS hA
  have hown : zs.vm.findClass "UpcastStreams$State" = some zm.cls := hown
  have hl : lv_has ls 3 [(0, .ref h), (1, .int (nI t)), (2, .int a)] := hl
  obtain ⟨H, hH⟩ : ∃ H, H = zs.heap := ⟨_, rfl⟩
  rw [← hH] at hP ⊢
  have hS : va_S zA zs.heap H [] := hH ▸ hS
  generalize ([] : List Loc) = locs at hS ⊢
  rcases (show t = 0 ∨ t = 1 ∨ t = 2 ∨ t = 3 ∨ t = 4 ∨ t = 5 by omega) with rfl | rfl | rfl | rfl | rfl | rfl
  · refine lv_iload_n hx hb d_State_change_0 rfl (lv_at hl 1 rfl) ?_
    refine lv_tableIn (off := (39 : Int)) (tgt := 40) hx hb d_State_change_1 (by decide) (by decide) (by decide) (by decide) ?_
    refine lv_aload_n hx hb d_State_change_40 rfl (lv_at hl 0 rfl) ?_
    refine lv_iconst (v := (1 : Int32)) hx hb d_State_change_41 (by decide) ?_
    refine us_top (show (1 : Int32) = us_b true from rfl) ?_
    refine va_put (D := (dC, dI)) (ci := 1) (v := .int (us_b true)) (ty := .boolean) (C := "UpcastStreams$State") (T := F_State) (N := 8) hx hb hts in_State t_State t_State_ok n_State hown hK hP hD hS 0 rfl rfl 0 (by decide) (hts _ uw_1_134) (fun _ h9 => h9) rfl (by decide +kernel) (us_nb _) (us_fb _) (Nat.le_of_ble_eq_true rfl) d_State_change_42 (fun H locs hP hD hS => ?_)
    have hP : va_P (dC, dI) vwCl [(h, .inr (1, [.int (us_b true), .int (us_b fr), .long li, .long ba, .long to, .long mo, .long od, .long ch]))] H := hP
    have hD : va_D zA [(h, .inr (1, [.int (us_b true), .int (us_b fr), .long li, .long ba, .long to, .long mo, .long od, .long ch]))] := hD
    refine lv_aload_n hx hb d_State_change_45 rfl (lv_at hl 0 rfl) ?_
    refine lv_iload_n hx hb d_State_change_46 rfl (lv_at hl 2 rfl) ?_
    refine lv_i2l (v := a.toInt64) hx hb d_State_change_47 rfl ?_
    refine va_put (D := (dC, dI)) (ci := 1) (v := .long a.toInt64) (ty := .long) (C := "UpcastStreams$State") (T := F_State) (N := 8) hx hb hts in_State t_State t_State_ok n_State hown hK hP hD hS 0 rfl rfl 2 (by decide) (hts _ uw_1_136) (fun _ h9 => h9) rfl (by decide +kernel) rfl rfl (Nat.le_of_ble_eq_true rfl) d_State_change_48 (fun H locs hP hD hS => ?_)
    have hP : va_P (dC, dI) vwCl [(h, .inr (1, [.int (us_b true), .int (us_b fr), .long a.toInt64, .long ba, .long to, .long mo, .long od, .long ch]))] H := hP
    have hD : va_D zA [(h, .inr (1, [.int (us_b true), .int (us_b fr), .long a.toInt64, .long ba, .long to, .long mo, .long od, .long ch]))] := hD
    refine lv_aload_n hx hb d_State_change_51 rfl (lv_at hl 0 rfl) ?_
    refine lv_lconst (v := (0 : Int64)) hx hb d_State_change_52 (by decide) ?_
    refine va_put (D := (dC, dI)) (ci := 1) (v := .long (0 : Int64)) (ty := .long) (C := "UpcastStreams$State") (T := F_State) (N := 8) hx hb hts in_State t_State t_State_ok n_State hown hK hP hD hS 0 rfl rfl 3 (by decide) (hts _ uw_1_137) (fun _ h9 => h9) rfl (by decide +kernel) rfl rfl (Nat.le_of_ble_eq_true rfl) d_State_change_53 (fun H locs hP hD hS => ?_)
    have hP : va_P (dC, dI) vwCl [(h, .inr (1, [.int (us_b true), .int (us_b fr), .long a.toInt64, .long (0 : Int64), .long to, .long mo, .long od, .long ch]))] H := hP
    have hD : va_D zA [(h, .inr (1, [.int (us_b true), .int (us_b fr), .long a.toInt64, .long (0 : Int64), .long to, .long mo, .long od, .long ch]))] := hD
    refine lv_goto (tgt := 111) hx hb d_State_change_56 (by decide) ?_
    exact us_vret hQ (by decide) (by decide) hx hb hr hlk hK hS (true, fr, a.toInt64, (0 : Int64), to, mo, od, ch) rfl (rfl) hP hD d_State_change_111
  · refine lv_iload_n hx hb d_State_change_0 rfl (lv_at hl 1 rfl) ?_
    refine lv_tableIn (off := (58 : Int)) (tgt := 59) hx hb d_State_change_1 (by decide) (by decide) (by decide) (by decide) ?_
    refine lv_aload_n hx hb d_State_change_59 rfl (lv_at hl 0 rfl) ?_
    refine lv_dup hx hb d_State_change_60 rfl ?_
    refine va_get (D := (dC, dI)) (ci := 1) (v := .long ba) (C := "UpcastStreams$State") (T := F_State) (N := 8) hx hb hts in_State hown hK hP 0 rfl rfl 3 (by decide) (hts _ uw_1_137) (fun _ h9 => h9) rfl d_State_change_61 ?_
    refine lv_iload_n hx hb d_State_change_64 rfl (lv_at hl 2 rfl) ?_
    refine lv_i2l (v := a.toInt64) hx hb d_State_change_65 rfl ?_
    refine lv_ladd hx hb d_State_change_66 ?_
    refine va_put (D := (dC, dI)) (ci := 1) (v := .long (ba + a.toInt64)) (ty := .long) (C := "UpcastStreams$State") (T := F_State) (N := 8) hx hb hts in_State t_State t_State_ok n_State hown hK hP hD hS 0 rfl rfl 3 (by decide) (hts _ uw_1_137) (fun _ h9 => h9) rfl (by decide +kernel) rfl rfl (Nat.le_of_ble_eq_true rfl) d_State_change_67 (fun H locs hP hD hS => ?_)
    have hP : va_P (dC, dI) vwCl [(h, .inr (1, [.int (us_b op), .int (us_b fr), .long li, .long (ba + a.toInt64), .long to, .long mo, .long od, .long ch]))] H := hP
    have hD : va_D zA [(h, .inr (1, [.int (us_b op), .int (us_b fr), .long li, .long (ba + a.toInt64), .long to, .long mo, .long od, .long ch]))] := hD
    refine lv_goto (tgt := 111) hx hb d_State_change_70 (by decide) ?_
    exact us_vret hQ (by decide) (by decide) hx hb hr hlk hK hS (op, fr, li, (ba + a.toInt64), to, mo, od, ch) rfl (rfl) hP hD d_State_change_111
  · refine lv_iload_n hx hb d_State_change_0 rfl (lv_at hl 1 rfl) ?_
    refine lv_tableIn (off := (72 : Int)) (tgt := 73) hx hb d_State_change_1 (by decide) (by decide) (by decide) (by decide) ?_
    refine lv_aload_n hx hb d_State_change_73 rfl (lv_at hl 0 rfl) ?_
    refine lv_dup hx hb d_State_change_74 rfl ?_
    refine va_get (D := (dC, dI)) (ci := 1) (v := .long ba) (C := "UpcastStreams$State") (T := F_State) (N := 8) hx hb hts in_State hown hK hP 0 rfl rfl 3 (by decide) (hts _ uw_1_137) (fun _ h9 => h9) rfl d_State_change_75 ?_
    refine lv_iload_n hx hb d_State_change_78 rfl (lv_at hl 2 rfl) ?_
    refine lv_i2l (v := a.toInt64) hx hb d_State_change_79 rfl ?_
    refine lv_lsub hx hb d_State_change_80 ?_
    refine va_put (D := (dC, dI)) (ci := 1) (v := .long (ba - a.toInt64)) (ty := .long) (C := "UpcastStreams$State") (T := F_State) (N := 8) hx hb hts in_State t_State t_State_ok n_State hown hK hP hD hS 0 rfl rfl 3 (by decide) (hts _ uw_1_137) (fun _ h9 => h9) rfl (by decide +kernel) rfl rfl (Nat.le_of_ble_eq_true rfl) d_State_change_81 (fun H locs hP hD hS => ?_)
    have hP : va_P (dC, dI) vwCl [(h, .inr (1, [.int (us_b op), .int (us_b fr), .long li, .long (ba - a.toInt64), .long to, .long mo, .long od, .long ch]))] H := hP
    have hD : va_D zA [(h, .inr (1, [.int (us_b op), .int (us_b fr), .long li, .long (ba - a.toInt64), .long to, .long mo, .long od, .long ch]))] := hD
    refine lv_goto (tgt := 111) hx hb d_State_change_84 (by decide) ?_
    exact us_vret hQ (by decide) (by decide) hx hb hr hlk hK hS (op, fr, li, (ba - a.toInt64), to, mo, od, ch) rfl (rfl) hP hD d_State_change_111
  · refine lv_iload_n hx hb d_State_change_0 rfl (lv_at hl 1 rfl) ?_
    refine lv_tableIn (off := (86 : Int)) (tgt := 87) hx hb d_State_change_1 (by decide) (by decide) (by decide) (by decide) ?_
    refine lv_aload_n hx hb d_State_change_87 rfl (lv_at hl 0 rfl) ?_
    refine lv_iconst (v := (1 : Int32)) hx hb d_State_change_88 (by decide) ?_
    refine us_top (show (1 : Int32) = us_b true from rfl) ?_
    refine va_put (D := (dC, dI)) (ci := 1) (v := .int (us_b true)) (ty := .boolean) (C := "UpcastStreams$State") (T := F_State) (N := 8) hx hb hts in_State t_State t_State_ok n_State hown hK hP hD hS 0 rfl rfl 1 (by decide) (hts _ uw_1_135) (fun _ h9 => h9) rfl (by decide +kernel) (us_nb _) (us_fb _) (Nat.le_of_ble_eq_true rfl) d_State_change_89 (fun H locs hP hD hS => ?_)
    have hP : va_P (dC, dI) vwCl [(h, .inr (1, [.int (us_b op), .int (us_b true), .long li, .long ba, .long to, .long mo, .long od, .long ch]))] H := hP
    have hD : va_D zA [(h, .inr (1, [.int (us_b op), .int (us_b true), .long li, .long ba, .long to, .long mo, .long od, .long ch]))] := hD
    refine lv_goto (tgt := 111) hx hb d_State_change_92 (by decide) ?_
    exact us_vret hQ (by decide) (by decide) hx hb hr hlk hK hS (op, true, li, ba, to, mo, od, ch) rfl (rfl) hP hD d_State_change_111
  · refine lv_iload_n hx hb d_State_change_0 rfl (lv_at hl 1 rfl) ?_
    refine lv_tableIn (off := (94 : Int)) (tgt := 95) hx hb d_State_change_1 (by decide) (by decide) (by decide) (by decide) ?_
    refine lv_aload_n hx hb d_State_change_95 rfl (lv_at hl 0 rfl) ?_
    refine lv_iconst (v := (0 : Int32)) hx hb d_State_change_96 (by decide) ?_
    refine us_top (show (0 : Int32) = us_b false from rfl) ?_
    refine va_put (D := (dC, dI)) (ci := 1) (v := .int (us_b false)) (ty := .boolean) (C := "UpcastStreams$State") (T := F_State) (N := 8) hx hb hts in_State t_State t_State_ok n_State hown hK hP hD hS 0 rfl rfl 1 (by decide) (hts _ uw_1_135) (fun _ h9 => h9) rfl (by decide +kernel) (us_nb _) (us_fb _) (Nat.le_of_ble_eq_true rfl) d_State_change_97 (fun H locs hP hD hS => ?_)
    have hP : va_P (dC, dI) vwCl [(h, .inr (1, [.int (us_b op), .int (us_b false), .long li, .long ba, .long to, .long mo, .long od, .long ch]))] H := hP
    have hD : va_D zA [(h, .inr (1, [.int (us_b op), .int (us_b false), .long li, .long ba, .long to, .long mo, .long od, .long ch]))] := hD
    refine lv_goto (tgt := 111) hx hb d_State_change_100 (by decide) ?_
    exact us_vret hQ (by decide) (by decide) hx hb hr hlk hK hS (op, false, li, ba, to, mo, od, ch) rfl (rfl) hP hD d_State_change_111
  · refine lv_iload_n hx hb d_State_change_0 rfl (lv_at hl 1 rfl) ?_
    refine lv_tableIn (off := (102 : Int)) (tgt := 103) hx hb d_State_change_1 (by decide) (by decide) (by decide) (by decide) ?_
    refine lv_aload_n hx hb d_State_change_103 rfl (lv_at hl 0 rfl) ?_
    refine lv_iconst (v := (0 : Int32)) hx hb d_State_change_104 (by decide) ?_
    refine us_top (show (0 : Int32) = us_b false from rfl) ?_
    refine va_put (D := (dC, dI)) (ci := 1) (v := .int (us_b false)) (ty := .boolean) (C := "UpcastStreams$State") (T := F_State) (N := 8) hx hb hts in_State t_State t_State_ok n_State hown hK hP hD hS 0 rfl rfl 0 (by decide) (hts _ uw_1_134) (fun _ h9 => h9) rfl (by decide +kernel) (us_nb _) (us_fb _) (Nat.le_of_ble_eq_true rfl) d_State_change_105 (fun H locs hP hD hS => ?_)
    have hP : va_P (dC, dI) vwCl [(h, .inr (1, [.int (us_b false), .int (us_b fr), .long li, .long ba, .long to, .long mo, .long od, .long ch]))] H := hP
    have hD : va_D zA [(h, .inr (1, [.int (us_b false), .int (us_b fr), .long li, .long ba, .long to, .long mo, .long od, .long ch]))] := hD
    refine lv_goto (tgt := 111) hx hb d_State_change_108 (by decide) ?_
    exact us_vret hQ (by decide) (by decide) hx hb hr hlk hK hS (false, fr, li, ba, to, mo, od, ch) rfl (rfl) hP hD d_State_change_111

set_option maxHeartbeats 4000000 in
set_option maxRecDepth 100000 in
theorem c_State_count (zl : Launch) (dC : Nat → ClassId) (dI : Nat → Nat → Nat) (cI cL cS cR : ClassId) (h : Nat) (t : Nat) (a : Int32) (b : Int32) (op : Bool) (fr : Bool) (li : Int64) (ba : Int64) (to : Int64) (mo : Int64) (od : Int64) (ch : Int64) (ht : t < 6) : us_Met (S := Bool × Bool × Int64 × Int64 × Int64 × Int64 × Int64 × Int64) zl y_State_count w_State_count ({ frames := 1, cells := 0, slots := 0, locals := 24 }) (dC, dI) vwCl (us_ty cI cL cS cR) [.ref h, .int (nI t), .int a, .int b] [(h, .inr (1, [.int (us_b op), .int (us_b fr), .long li, .long ba, .long to, .long mo, .long od, .long ch]))] (fun _ => none) (fun u => (u.1, u.2.1, u.2.2.1, u.2.2.2.1, u.2.2.2.2.1, u.2.2.2.2.2.1, u.2.2.2.2.2.2.1, u.2.2.2.2.2.2.2) = us_cnt (op, fr, li, ba, to, mo, od, ch) t a b) (fun u => [(h, .inr (1, [.int (us_b u.1), .int (us_b u.2.1), .long u.2.2.1, .long u.2.2.2.1, .long u.2.2.2.2.1, .long u.2.2.2.2.2.1, .long u.2.2.2.2.2.2.1, .long u.2.2.2.2.2.2.2]))]) := by
  refine us_ofW (cc := b_State_count) (maxL := 4) (ret := none) (by decide) (Nat.le_of_ble_eq_true rfl) ?_
  intro zp ze zs zm args below meth zc zA ls zQ hQ hx hb hr hml hts hown hlk hin hl hK hP hD hS hA
  have hown : zs.vm.findClass "UpcastStreams$State" = some zm.cls := hown
  have hl : lv_has ls 4 [(0, .ref h), (1, .int (nI t)), (2, .int a), (3, .int b)] := hl
  obtain ⟨H, hH⟩ : ∃ H, H = zs.heap := ⟨_, rfl⟩
  rw [← hH] at hP ⊢
  have hS : va_S zA zs.heap H [] := hH ▸ hS
  generalize ([] : List Loc) = locs at hS ⊢
  refine lv_aload_n hx hb d_State_count_0 rfl (lv_at hl 0 rfl) ?_
  refine lv_aload_n hx hb d_State_count_1 rfl (lv_at hl 0 rfl) ?_
  refine va_get (D := (dC, dI)) (ci := 1) (v := .long to) (C := "UpcastStreams$State") (T := F_State) (N := 8) hx hb hts in_State hown hK hP 0 rfl rfl 4 (by decide) (hts _ uw_1_138) (fun _ h9 => h9) rfl d_State_count_2 ?_
  refine lv_aload_n hx hb d_State_count_5 rfl (lv_at hl 0 rfl) ?_
  refine va_get (D := (dC, dI)) (ci := 1) (v := .long ba) (C := "UpcastStreams$State") (T := F_State) (N := 8) hx hb hts in_State hown hK hP 0 rfl rfl 3 (by decide) (hts _ uw_1_137) (fun _ h9 => h9) rfl d_State_count_6 ?_
  refine va_mmax_long hx hb (hml.trans hl.1.symm) hown (hts _ uw_2_226) (hts _ uw_2_227) (hts _ uw_1_2) (hts _ (us_m2 228 rfl (by decide))) (by decide) (Nat.le_of_ble_eq_true rfl) (by decide) (by decide) d_State_count_9 ?_
  refine us_topl (show (if ba < to then to else ba) = (if to < ba then ba else to) from us_maxl _ _) ?_
  refine va_put (D := (dC, dI)) (ci := 1) (v := .long (if to < ba then ba else to)) (ty := .long) (C := "UpcastStreams$State") (T := F_State) (N := 8) hx hb hts in_State t_State t_State_ok n_State hown hK hP hD hS 0 rfl rfl 4 (by decide) (hts _ uw_1_138) (fun _ h9 => h9) rfl (by decide +kernel) rfl rfl (Nat.le_of_ble_eq_true rfl) d_State_count_12 (fun H locs hP hD hS => ?_)
  have hP : va_P (dC, dI) vwCl [(h, .inr (1, [.int (us_b op), .int (us_b fr), .long li, .long ba, .long (if to < ba then ba else to), .long mo, .long od, .long ch]))] H := hP
  have hD : va_D zA [(h, .inr (1, [.int (us_b op), .int (us_b fr), .long li, .long ba, .long (if to < ba then ba else to), .long mo, .long od, .long ch]))] := hD
  refine lv_aload_n hx hb d_State_count_15 rfl (lv_at hl 0 rfl) ?_
  refine lv_dup hx hb d_State_count_16 rfl ?_
  refine va_get (D := (dC, dI)) (ci := 1) (v := .long mo) (C := "UpcastStreams$State") (T := F_State) (N := 8) hx hb hts in_State hown hK hP 0 rfl rfl 5 (by decide) (hts _ uw_1_139) (fun _ h9 => h9) rfl d_State_count_17 ?_
  refine lv_lconst (v := (1 : Int64)) hx hb d_State_count_20 (by decide) ?_
  refine lv_ladd hx hb d_State_count_21 ?_
  refine va_put (D := (dC, dI)) (ci := 1) (v := .long (mo + (1 : Int64))) (ty := .long) (C := "UpcastStreams$State") (T := F_State) (N := 8) hx hb hts in_State t_State t_State_ok n_State hown hK hP hD hS 0 rfl rfl 5 (by decide) (hts _ uw_1_139) (fun _ h9 => h9) rfl (by decide +kernel) rfl rfl (Nat.le_of_ble_eq_true rfl) d_State_count_22 (fun H locs hP hD hS => ?_)
  have hP : va_P (dC, dI) vwCl [(h, .inr (1, [.int (us_b op), .int (us_b fr), .long li, .long ba, .long (if to < ba then ba else to), .long (mo + (1 : Int64)), .long od, .long ch]))] H := hP
  have hD : va_D zA [(h, .inr (1, [.int (us_b op), .int (us_b fr), .long li, .long ba, .long (if to < ba then ba else to), .long (mo + (1 : Int64)), .long od, .long ch]))] := hD
  refine lv_aload_n hx hb d_State_count_25 rfl (lv_at hl 0 rfl) ?_
  refine lv_aload_n hx hb d_State_count_26 rfl (lv_at hl 0 rfl) ?_
  refine va_get (D := (dC, dI)) (ci := 1) (v := .long ch) (C := "UpcastStreams$State") (T := F_State) (N := 8) hx hb hts in_State hown hK hP 0 rfl rfl 7 (by decide) (hts _ uw_1_142) (fun _ h9 => h9) rfl d_State_count_27 ?_
  refine lv_ldc2 (v := (31 : Int64)) hx hb hown (hts _ uw_2_229) d_State_count_30 ?_
  refine lv_lmul hx hb d_State_count_33 ?_
  refine lv_iload_n hx hb d_State_count_34 rfl (lv_at hl 1 rfl) ?_
  refine lv_i2l (v := (nI t).toInt64) hx hb d_State_count_35 rfl ?_
  refine lv_ladd hx hb d_State_count_36 ?_
  refine lv_ldc2 (v := (7 : Int64)) hx hb hown (hts _ uw_2_230) d_State_count_37 ?_
  refine lv_iload_n hx hb d_State_count_40 rfl (lv_at hl 2 rfl) ?_
  refine lv_i2l (v := a.toInt64) hx hb d_State_count_41 rfl ?_
  refine lv_lmul hx hb d_State_count_42 ?_
  refine lv_ladd hx hb d_State_count_43 ?_
  refine lv_iload_n hx hb d_State_count_44 rfl (lv_at hl 3 rfl) ?_
  refine lv_i2l (v := b.toInt64) hx hb d_State_count_45 rfl ?_
  refine lv_lxor hx hb d_State_count_46 ?_
  refine va_put (D := (dC, dI)) (ci := 1) (v := .long ((((ch * (31 : Int64)) + ((nI t).toInt64)) + ((7 : Int64) * a.toInt64)) ^^^ b.toInt64)) (ty := .long) (C := "UpcastStreams$State") (T := F_State) (N := 8) hx hb hts in_State t_State t_State_ok n_State hown hK hP hD hS 0 rfl rfl 7 (by decide) (hts _ uw_1_142) (fun _ h9 => h9) rfl (by decide +kernel) rfl rfl (Nat.le_of_ble_eq_true rfl) d_State_count_47 (fun H locs hP hD hS => ?_)
  have hP : va_P (dC, dI) vwCl [(h, .inr (1, [.int (us_b op), .int (us_b fr), .long li, .long ba, .long (if to < ba then ba else to), .long (mo + (1 : Int64)), .long od, .long ((((ch * (31 : Int64)) + ((nI t).toInt64)) + ((7 : Int64) * a.toInt64)) ^^^ b.toInt64)]))] H := hP
  have hD : va_D zA [(h, .inr (1, [.int (us_b op), .int (us_b fr), .long li, .long ba, .long (if to < ba then ba else to), .long (mo + (1 : Int64)), .long od, .long ((((ch * (31 : Int64)) + ((nI t).toInt64)) + ((7 : Int64) * a.toInt64)) ^^^ b.toInt64)]))] := hD
  exact us_vret hQ (by decide) (by decide) hx hb hr hlk hK hS (op, fr, li, ba, (if to < ba then ba else to), (mo + (1 : Int64)), od, ((((ch * (31 : Int64)) + ((nI t).toInt64)) + ((7 : Int64) * a.toInt64)) ^^^ b.toInt64)) rfl (rfl) hP hD d_State_count_50

set_option maxHeartbeats 4000000 in
set_option maxRecDepth 100000 in
theorem c_State_partOf (zl : Launch) (dC : Nat → ClassId) (dI : Nat → Nat → Nat) (cI cL cS cR : ClassId) (h : Nat) (w : Int32) (op : Bool) (fr : Bool) (li : Int64) (ba : Int64) (to : Int64) (mo : Int64) (od : Int64) (ch : Int64)  : us_Met (S := Int64) zl y_State_partOf w_State_partOf ({ frames := 0, cells := 0, slots := 0, locals := 0 }) (dC, dI) vwCl (us_ty cI cL cS cR) [.ref h, .int w] [(h, .inr (1, [.int (us_b op), .int (us_b fr), .long li, .long ba, .long to, .long mo, .long od, .long ch]))] (fun u => some (.long u)) (fun u => u = us_fld (op, fr, li, ba, to, mo, od, ch) w) (fun u => [(h, .inr (1, [.int (us_b op), .int (us_b fr), .long li, .long ba, .long to, .long mo, .long od, .long ch]))]) := by
  refine us_ofW (cc := b_State_partOf) (maxL := 2) (ret := (some .long)) (by decide) (Nat.le_of_ble_eq_true rfl) ?_
  intro zp ze zs zm args below meth zc zA ls zQ hQ hx hb hr hml hts hown hlk hin hl hK hP hD hS hA
  have hown : zs.vm.findClass "UpcastStreams$State" = some zm.cls := hown
  have hl : lv_has ls 2 [(0, .ref h), (1, .int w)] := hl
  obtain ⟨H, hH⟩ : ∃ H, H = zs.heap := ⟨_, rfl⟩
  rw [← hH] at hP ⊢
  have hS : va_S zA zs.heap H [] := hH ▸ hS
  generalize ([] : List Loc) = locs at hS ⊢
  refine lv_iload_n hx hb d_State_partOf_0 rfl (lv_at hl 1 rfl) ?_
  by_cases c1 : w = (0 : Int32)
  · refine us_top (show w = (0 : Int32) from c1) ?_
    refine lv_tableIn (off := (47 : Int)) (tgt := 48) hx hb d_State_partOf_1 (by decide) (by decide) (by decide) (by decide) ?_
    cases op
    · refine lv_aload_n hx hb d_State_partOf_48 rfl (lv_at hl 0 rfl) ?_
      refine va_get (D := (dC, dI)) (ci := 1) (v := .int (us_b false)) (C := "UpcastStreams$State") (T := F_State) (N := 8) hx hb hts in_State hown hK hP 0 rfl rfl 0 (by decide) (hts _ uw_1_134) (fun _ h9 => h9) rfl d_State_partOf_49 ?_
      refine lv_if_eq (tgt := 59) hx hb d_State_partOf_52 (by decide) (fun c2 => ?_) (fun h => absurd h (by decide))
      refine lv_lconst (v := (0 : Int64)) hx hb d_State_partOf_59 (by decide) ?_
      exact us_lret hQ (by decide) (by decide) hx hb hr hlk hK hS (0 : Int64) rfl (by simp_all [us_fld, us_bl]) hP hD d_State_partOf_60
    · refine lv_aload_n hx hb d_State_partOf_48 rfl (lv_at hl 0 rfl) ?_
      refine va_get (D := (dC, dI)) (ci := 1) (v := .int (us_b true)) (C := "UpcastStreams$State") (T := F_State) (N := 8) hx hb hts in_State hown hK hP 0 rfl rfl 0 (by decide) (hts _ uw_1_134) (fun _ h9 => h9) rfl d_State_partOf_49 ?_
      refine lv_if_eq (tgt := 59) hx hb d_State_partOf_52 (by decide) (fun h => absurd h (by decide)) (fun c3 => ?_)
      refine lv_lconst (v := (1 : Int64)) hx hb d_State_partOf_55 (by decide) ?_
      refine lv_goto (tgt := 60) hx hb d_State_partOf_56 (by decide) ?_
      exact us_lret hQ (by decide) (by decide) hx hb hr hlk hK hS (1 : Int64) rfl (by simp_all [us_fld, us_bl]) hP hD d_State_partOf_60
  by_cases c4 : w = (1 : Int32)
  · refine us_top (show w = (1 : Int32) from c4) ?_
    refine lv_tableIn (off := (60 : Int)) (tgt := 61) hx hb d_State_partOf_1 (by decide) (by decide) (by decide) (by decide) ?_
    cases fr
    · refine lv_aload_n hx hb d_State_partOf_61 rfl (lv_at hl 0 rfl) ?_
      refine va_get (D := (dC, dI)) (ci := 1) (v := .int (us_b false)) (C := "UpcastStreams$State") (T := F_State) (N := 8) hx hb hts in_State hown hK hP 0 rfl rfl 1 (by decide) (hts _ uw_1_135) (fun _ h9 => h9) rfl d_State_partOf_62 ?_
      refine lv_if_eq (tgt := 72) hx hb d_State_partOf_65 (by decide) (fun c5 => ?_) (fun h => absurd h (by decide))
      refine lv_lconst (v := (0 : Int64)) hx hb d_State_partOf_72 (by decide) ?_
      exact us_lret hQ (by decide) (by decide) hx hb hr hlk hK hS (0 : Int64) rfl (by simp_all [us_fld, us_bl]) hP hD d_State_partOf_73
    · refine lv_aload_n hx hb d_State_partOf_61 rfl (lv_at hl 0 rfl) ?_
      refine va_get (D := (dC, dI)) (ci := 1) (v := .int (us_b true)) (C := "UpcastStreams$State") (T := F_State) (N := 8) hx hb hts in_State hown hK hP 0 rfl rfl 1 (by decide) (hts _ uw_1_135) (fun _ h9 => h9) rfl d_State_partOf_62 ?_
      refine lv_if_eq (tgt := 72) hx hb d_State_partOf_65 (by decide) (fun h => absurd h (by decide)) (fun c6 => ?_)
      refine lv_lconst (v := (1 : Int64)) hx hb d_State_partOf_68 (by decide) ?_
      refine lv_goto (tgt := 73) hx hb d_State_partOf_69 (by decide) ?_
      exact us_lret hQ (by decide) (by decide) hx hb hr hlk hK hS (1 : Int64) rfl (by simp_all [us_fld, us_bl]) hP hD d_State_partOf_73
  by_cases c7 : w = (2 : Int32)
  · refine us_top (show w = (2 : Int32) from c7) ?_
    refine lv_tableIn (off := (73 : Int)) (tgt := 74) hx hb d_State_partOf_1 (by decide) (by decide) (by decide) (by decide) ?_
    refine lv_aload_n hx hb d_State_partOf_74 rfl (lv_at hl 0 rfl) ?_
    refine va_get (D := (dC, dI)) (ci := 1) (v := .long li) (C := "UpcastStreams$State") (T := F_State) (N := 8) hx hb hts in_State hown hK hP 0 rfl rfl 2 (by decide) (hts _ uw_1_136) (fun _ h9 => h9) rfl d_State_partOf_75 ?_
    exact us_lret hQ (by decide) (by decide) hx hb hr hlk hK hS li rfl (by simp_all [us_fld, us_bl]) hP hD d_State_partOf_78
  by_cases c8 : w = (3 : Int32)
  · refine us_top (show w = (3 : Int32) from c8) ?_
    refine lv_tableIn (off := (78 : Int)) (tgt := 79) hx hb d_State_partOf_1 (by decide) (by decide) (by decide) (by decide) ?_
    refine lv_aload_n hx hb d_State_partOf_79 rfl (lv_at hl 0 rfl) ?_
    refine va_get (D := (dC, dI)) (ci := 1) (v := .long ba) (C := "UpcastStreams$State") (T := F_State) (N := 8) hx hb hts in_State hown hK hP 0 rfl rfl 3 (by decide) (hts _ uw_1_137) (fun _ h9 => h9) rfl d_State_partOf_80 ?_
    exact us_lret hQ (by decide) (by decide) hx hb hr hlk hK hS ba rfl (by simp_all [us_fld, us_bl]) hP hD d_State_partOf_83
  by_cases c9 : w = (4 : Int32)
  · refine us_top (show w = (4 : Int32) from c9) ?_
    refine lv_tableIn (off := (83 : Int)) (tgt := 84) hx hb d_State_partOf_1 (by decide) (by decide) (by decide) (by decide) ?_
    refine lv_aload_n hx hb d_State_partOf_84 rfl (lv_at hl 0 rfl) ?_
    refine va_get (D := (dC, dI)) (ci := 1) (v := .long to) (C := "UpcastStreams$State") (T := F_State) (N := 8) hx hb hts in_State hown hK hP 0 rfl rfl 4 (by decide) (hts _ uw_1_138) (fun _ h9 => h9) rfl d_State_partOf_85 ?_
    exact us_lret hQ (by decide) (by decide) hx hb hr hlk hK hS to rfl (by simp_all [us_fld, us_bl]) hP hD d_State_partOf_88
  by_cases c10 : w = (5 : Int32)
  · refine us_top (show w = (5 : Int32) from c10) ?_
    refine lv_tableIn (off := (88 : Int)) (tgt := 89) hx hb d_State_partOf_1 (by decide) (by decide) (by decide) (by decide) ?_
    refine lv_aload_n hx hb d_State_partOf_89 rfl (lv_at hl 0 rfl) ?_
    refine va_get (D := (dC, dI)) (ci := 1) (v := .long mo) (C := "UpcastStreams$State") (T := F_State) (N := 8) hx hb hts in_State hown hK hP 0 rfl rfl 5 (by decide) (hts _ uw_1_139) (fun _ h9 => h9) rfl d_State_partOf_90 ?_
    exact us_lret hQ (by decide) (by decide) hx hb hr hlk hK hS mo rfl (by simp_all [us_fld, us_bl]) hP hD d_State_partOf_93
  by_cases c11 : w = (6 : Int32)
  · refine us_top (show w = (6 : Int32) from c11) ?_
    refine lv_tableIn (off := (93 : Int)) (tgt := 94) hx hb d_State_partOf_1 (by decide) (by decide) (by decide) (by decide) ?_
    refine lv_aload_n hx hb d_State_partOf_94 rfl (lv_at hl 0 rfl) ?_
    refine va_get (D := (dC, dI)) (ci := 1) (v := .long od) (C := "UpcastStreams$State") (T := F_State) (N := 8) hx hb hts in_State hown hK hP 0 rfl rfl 6 (by decide) (hts _ uw_1_140) (fun _ h9 => h9) rfl d_State_partOf_95 ?_
    exact us_lret hQ (by decide) (by decide) hx hb hr hlk hK hS od rfl (by simp_all [us_fld, us_bl]) hP hD d_State_partOf_98
  by_cases c12 : w = (7 : Int32)
  · refine us_top (show w = (7 : Int32) from c12) ?_
    refine lv_tableIn (off := (98 : Int)) (tgt := 99) hx hb d_State_partOf_1 (by decide) (by decide) (by decide) (by decide) ?_
    refine lv_aload_n hx hb d_State_partOf_99 rfl (lv_at hl 0 rfl) ?_
    refine va_get (D := (dC, dI)) (ci := 1) (v := .long ch) (C := "UpcastStreams$State") (T := F_State) (N := 8) hx hb hts in_State hown hK hP 0 rfl rfl 7 (by decide) (hts _ uw_1_142) (fun _ h9 => h9) rfl d_State_partOf_100 ?_
    exact us_lret hQ (by decide) (by decide) hx hb hr hlk hK hS ch rfl (by simp_all [us_fld, us_bl]) hP hD d_State_partOf_103
  have c1t := lv_neT c1 (a := 0) (by decide)
  have c4t := lv_neT c4 (a := 1) (by decide)
  have c7t := lv_neT c7 (a := 2) (by decide)
  have c8t := lv_neT c8 (a := 3) (by decide)
  have c9t := lv_neT c9 (a := 4) (by decide)
  have c10t := lv_neT c10 (a := 5) (by decide)
  have c11t := lv_neT c11 (a := 6) (by decide)
  have c12t := lv_neT c12 (a := 7) (by decide)
  refine lv_tableOut (tgt := 104) hx hb d_State_partOf_1 (by omega) (by decide) ?_
  refine lv_ldc2 (v := (-1 : Int64)) hx hb hown (hts _ uw_2_42) d_State_partOf_104 ?_
  exact us_lret hQ (by decide) (by decide) hx hb hr hlk hK hS (-1 : Int64) rfl (by simp_all [us_fld, us_bl]) hP hD d_State_partOf_107
