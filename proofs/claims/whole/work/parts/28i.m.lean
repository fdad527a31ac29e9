set_option maxHeartbeats 4000000 in
set_option maxRecDepth 100000 in
theorem m_field (zl : Launch) (dC : Nat → ClassId) (dI : Nat → Nat → Nat) (cI cL cS cR : ClassId) (mm : Nat) (p1 : Nat) (p2 : Nat) (p3 : Nat) (p4 : Nat) (p5 : Nat) (p6 : Nat) (p7 : Nat) (p8 : Nat) (p9 : Nat) (p10 : Nat) (p11 : Nat) (p12 : Nat) (p13 : Nat) (p14 : Nat) (p15 : Nat) (p16 : Nat) (p17 : Nat) (p18 : Nat) (p19 : Nat) (p20 : Nat) (p21 : Nat) (p22 : Nat) (mp : Int32) (co : Int32) (cm : Int32) (ope : Int32) (n : Nat) (un : Nat) (he : Nat) (LA : Nat → Int64) (k : Nat) (xl : us_St) (hk : k < 8) (hsx : us_sx LA xl) : us_Met (S := Int64) zl y_M_field w_M_field ({ frames := 0, cells := 0, slots := 0, locals := 0 }) (dC, dI) vwCl (us_ty cI cL cS cR) [.ref mm, .int (nI k)] [(mm, .inr (8, [.int mp, .int co, .int (nI n), .ref p1, .ref p2, .ref p3, .ref p4, .ref p5, .int (nI un), .ref p6, .ref p7, .ref p8, .int cm, .ref p9, .ref p10, .ref p11, .int ope, .ref p12, .ref p13, .ref p14, .ref p15, .ref p16, .ref p17, .ref p18, .ref p19, .ref p20, .ref p21, .int (nI he), .ref p22])), (p17, .inl (cL, 8, .inr (.inl LA)))] (fun u => some (.long u)) (fun u => u = us_fld xl (nI k)) (fun u => [(mm, .inr (8, [.int mp, .int (0 : Int32), .int (nI n), .ref p1, .ref p2, .ref p3, .ref p4, .ref p5, .int (nI un), .ref p6, .ref p7, .ref p8, .int cm, .ref p9, .ref p10, .ref p11, .int ope, .ref p12, .ref p13, .ref p14, .ref p15, .ref p16, .ref p17, .ref p18, .ref p19, .ref p20, .ref p21, .int (nI he), .ref p22])), (p17, .inl (cL, 8, .inr (.inl LA)))]) := by
  refine us_ofW (cc := b_M_field) (maxL := 2) (ret := (some .long)) (by decide) (Nat.le_of_ble_eq_true rfl) ?_
  intro zp ze zs zm args below meth zc zA ls zQ hQ hx hb hr hml hts hown hlk hin hl hK hP hD hS hA
  have hown : zs.vm.findClass "UpcastStreamsModel" = some zm.cls := hown
  have hl : lv_has ls 2 [(0, .ref mm), (1, .int (nI k))] := hl
  obtain ⟨H, hH⟩ : ∃ H, H = zs.heap := ⟨_, rfl⟩
  rw [← hH] at hP ⊢
  have hS : va_S zA zs.heap H [] := hH ▸ hS
  generalize ([] : List Loc) = locs at hS ⊢
  obtain ⟨s0, s1, s2, s3, s4, s5, s6, s7⟩ := hsx
  rcases (show k = 0 ∨ k = 1 ∨ k = 2 ∨ k = 3 ∨ k = 4 ∨ k = 5 ∨ k = 6 ∨ k = 7 by omega) with rfl | rfl | rfl | rfl | rfl | rfl | rfl | rfl
  · refine lv_aload_n hx hb d_M_field_0 rfl (lv_at hl 0 rfl) ?_
    refine lv_iconst (v := (0 : Int32)) hx hb d_M_field_1 (by decide) ?_
    refine va_put (D := (dC, dI)) (ci := 8) (v := .int (0 : Int32)) (ty := .int) (C := "UpcastStreamsModel") (T := F_M) (N := 29) hx hb hts in_M t_M t_M_ok n_M hown hK hP hD hS 0 rfl rfl 1 (by decide) (hts _ uw_3_132) (fun _ h9 => h9) rfl (by decide +kernel) rfl rfl (Nat.le_of_ble_eq_true rfl) d_M_field_2 (fun H locs hP hD hS => ?_)
    have hP : va_P (dC, dI) vwCl [(mm, .inr (8, [.int mp, .int (0 : Int32), .int (nI n), .ref p1, .ref p2, .ref p3, .ref p4, .ref p5, .int (nI un), .ref p6, .ref p7, .ref p8, .int cm, .ref p9, .ref p10, .ref p11, .int ope, .ref p12, .ref p13, .ref p14, .ref p15, .ref p16, .ref p17, .ref p18, .ref p19, .ref p20, .ref p21, .int (nI he), .ref p22])), (p17, .inl (cL, 8, .inr (.inl LA)))] H := hP
    have hD : va_D zA [(mm, .inr (8, [.int mp, .int (0 : Int32), .int (nI n), .ref p1, .ref p2, .ref p3, .ref p4, .ref p5, .int (nI un), .ref p6, .ref p7, .ref p8, .int cm, .ref p9, .ref p10, .ref p11, .int ope, .ref p12, .ref p13, .ref p14, .ref p15, .ref p16, .ref p17, .ref p18, .ref p19, .ref p20, .ref p21, .int (nI he), .ref p22])), (p17, .inl (cL, 8, .inr (.inl LA)))] := hD
    refine lv_iload_n hx hb d_M_field_5 rfl (lv_at hl 1 rfl) ?_
    refine lv_if_lt (tgt := 15) hx hb d_M_field_6 (by decide) (fun h => absurd h (by decide)) (fun c1 => ?_)
    refine lv_iload_n hx hb d_M_field_9 rfl (lv_at hl 1 rfl) ?_
    refine lv_bipush (v := (7 : Int32)) hx hb d_M_field_10 (by decide) ?_
    refine lv_icmp_le (tgt := 21) hx hb d_M_field_12 (by decide) (fun c2 => ?_) (fun h => absurd h (by decide))
    refine lv_aload_n hx hb d_M_field_21 rfl (lv_at hl 0 rfl) ?_
    refine va_get (D := (dC, dI)) (ci := 8) (v := .ref p17) (C := "UpcastStreamsModel") (T := F_M) (N := 29) hx hb hts in_M hown hK hP 0 rfl rfl 22 (by decide) (hts _ uw_3_153) (fun _ h9 => h9) rfl d_M_field_22 ?_
    refine lv_iload_n hx hb d_M_field_25 rfl (lv_at hl 1 rfl) ?_
    refine us_lald (j := 0) hx hb hK hP 1 1 rfl rfl (by unfold vp_in; decide) (by decide) d_M_field_26 ?_
    exact us_lret hQ (by decide) (by decide) hx hb hr hlk hK hS (LA 0) rfl (by first | exact s0 | exact s1 | exact s2 | exact s3 | exact s4 | exact s5 | exact s6 | exact s7) hP hD d_M_field_27
  · refine lv_aload_n hx hb d_M_field_0 rfl (lv_at hl 0 rfl) ?_
    refine lv_iconst (v := (0 : Int32)) hx hb d_M_field_1 (by decide) ?_
    refine va_put (D := (dC, dI)) (ci := 8) (v := .int (0 : Int32)) (ty := .int) (C := "UpcastStreamsModel") (T := F_M) (N := 29) hx hb hts in_M t_M t_M_ok n_M hown hK hP hD hS 0 rfl rfl 1 (by decide) (hts _ uw_3_132) (fun _ h9 => h9) rfl (by decide +kernel) rfl rfl (Nat.le_of_ble_eq_true rfl) d_M_field_2 (fun H locs hP hD hS => ?_)
    have hP : va_P (dC, dI) vwCl [(mm, .inr (8, [.int mp, .int (0 : Int32), .int (nI n), .ref p1, .ref p2, .ref p3, .ref p4, .ref p5, .int (nI un), .ref p6, .ref p7, .ref p8, .int cm, .ref p9, .ref p10, .ref p11, .int ope, .ref p12, .ref p13, .ref p14, .ref p15, .ref p16, .ref p17, .ref p18, .ref p19, .ref p20, .ref p21, .int (nI he), .ref p22])), (p17, .inl (cL, 8, .inr (.inl LA)))] H := hP
    have hD : va_D zA [(mm, .inr (8, [.int mp, .int (0 : Int32), .int (nI n), .ref p1, .ref p2, .ref p3, .ref p4, .ref p5, .int (nI un), .ref p6, .ref p7, .ref p8, .int cm, .ref p9, .ref p10, .ref p11, .int ope, .ref p12, .ref p13, .ref p14, .ref p15, .ref p16, .ref p17, .ref p18, .ref p19, .ref p20, .ref p21, .int (nI he), .ref p22])), (p17, .inl (cL, 8, .inr (.inl LA)))] := hD
    refine lv_iload_n hx hb d_M_field_5 rfl (lv_at hl 1 rfl) ?_
    refine lv_if_lt (tgt := 15) hx hb d_M_field_6 (by decide) (fun h => absurd h (by decide)) (fun c3 => ?_)
    refine lv_iload_n hx hb d_M_field_9 rfl (lv_at hl 1 rfl) ?_
    refine lv_bipush (v := (7 : Int32)) hx hb d_M_field_10 (by decide) ?_
    refine lv_icmp_le (tgt := 21) hx hb d_M_field_12 (by decide) (fun c4 => ?_) (fun h => absurd h (by decide))
    refine lv_aload_n hx hb d_M_field_21 rfl (lv_at hl 0 rfl) ?_
    refine va_get (D := (dC, dI)) (ci := 8) (v := .ref p17) (C := "UpcastStreamsModel") (T := F_M) (N := 29) hx hb hts in_M hown hK hP 0 rfl rfl 22 (by decide) (hts _ uw_3_153) (fun _ h9 => h9) rfl d_M_field_22 ?_
    refine lv_iload_n hx hb d_M_field_25 rfl (lv_at hl 1 rfl) ?_
    refine us_lald (j := 1) hx hb hK hP 1 1 rfl rfl (by unfold vp_in; decide) (by decide) d_M_field_26 ?_
    exact us_lret hQ (by decide) (by decide) hx hb hr hlk hK hS (LA 1) rfl (by first | exact s0 | exact s1 | exact s2 | exact s3 | exact s4 | exact s5 | exact s6 | exact s7) hP hD d_M_field_27
  · refine lv_aload_n hx hb d_M_field_0 rfl (lv_at hl 0 rfl) ?_
    refine lv_iconst (v := (0 : Int32)) hx hb d_M_field_1 (by decide) ?_
    refine va_put (D := (dC, dI)) (ci := 8) (v := .int (0 : Int32)) (ty := .int) (C := "UpcastStreamsModel") (T := F_M) (N := 29) hx hb hts in_M t_M t_M_ok n_M hown hK hP hD hS 0 rfl rfl 1 (by decide) (hts _ uw_3_132) (fun _ h9 => h9) rfl (by decide +kernel) rfl rfl (Nat.le_of_ble_eq_true rfl) d_M_field_2 (fun H locs hP hD hS => ?_)
    have hP : va_P (dC, dI) vwCl [(mm, .inr (8, [.int mp, .int (0 : Int32), .int (nI n), .ref p1, .ref p2, .ref p3, .ref p4, .ref p5, .int (nI un), .ref p6, .ref p7, .ref p8, .int cm, .ref p9, .ref p10, .ref p11, .int ope, .ref p12, .ref p13, .ref p14, .ref p15, .ref p16, .ref p17, .ref p18, .ref p19, .ref p20, .ref p21, .int (nI he), .ref p22])), (p17, .inl (cL, 8, .inr (.inl LA)))] H := hP
    have hD : va_D zA [(mm, .inr (8, [.int mp, .int (0 : Int32), .int (nI n), .ref p1, .ref p2, .ref p3, .ref p4, .ref p5, .int (nI un), .ref p6, .ref p7, .ref p8, .int cm, .ref p9, .ref p10, .ref p11, .int ope, .ref p12, .ref p13, .ref p14, .ref p15, .ref p16, .ref p17, .ref p18, .ref p19, .ref p20, .ref p21, .int (nI he), .ref p22])), (p17, .inl (cL, 8, .inr (.inl LA)))] := hD
    refine lv_iload_n hx hb d_M_field_5 rfl (lv_at hl 1 rfl) ?_
    refine lv_if_lt (tgt := 15) hx hb d_M_field_6 (by decide) (fun h => absurd h (by decide)) (fun c5 => ?_)
    refine lv_iload_n hx hb d_M_field_9 rfl (lv_at hl 1 rfl) ?_
    refine lv_bipush (v := (7 : Int32)) hx hb d_M_field_10 (by decide) ?_
    refine lv_icmp_le (tgt := 21) hx hb d_M_field_12 (by decide) (fun c6 => ?_) (fun h => absurd h (by decide))
    refine lv_aload_n hx hb d_M_field_21 rfl (lv_at hl 0 rfl) ?_
    refine va_get (D := (dC, dI)) (ci := 8) (v := .ref p17) (C := "UpcastStreamsModel") (T := F_M) (N := 29) hx hb hts in_M hown hK hP 0 rfl rfl 22 (by decide) (hts _ uw_3_153) (fun _ h9 => h9) rfl d_M_field_22 ?_
    refine lv_iload_n hx hb d_M_field_25 rfl (lv_at hl 1 rfl) ?_
    refine us_lald (j := 2) hx hb hK hP 1 1 rfl rfl (by unfold vp_in; decide) (by decide) d_M_field_26 ?_
    exact us_lret hQ (by decide) (by decide) hx hb hr hlk hK hS (LA 2) rfl (by first | exact s0 | exact s1 | exact s2 | exact s3 | exact s4 | exact s5 | exact s6 | exact s7) hP hD d_M_field_27
  · refine lv_aload_n hx hb d_M_field_0 rfl (lv_at hl 0 rfl) ?_
    refine lv_iconst (v := (0 : Int32)) hx hb d_M_field_1 (by decide) ?_
    refine va_put (D := (dC, dI)) (ci := 8) (v := .int (0 : Int32)) (ty := .int) (C := "UpcastStreamsModel") (T := F_M) (N := 29) hx hb hts in_M t_M t_M_ok n_M hown hK hP hD hS 0 rfl rfl 1 (by decide) (hts _ uw_3_132) (fun _ h9 => h9) rfl (by decide +kernel) rfl rfl (Nat.le_of_ble_eq_true rfl) d_M_field_2 (fun H locs hP hD hS => ?_)
    have hP : va_P (dC, dI) vwCl [(mm, .inr (8, [.int mp, .int (0 : Int32), .int (nI n), .ref p1, .ref p2, .ref p3, .ref p4, .ref p5, .int (nI un), .ref p6, .ref p7, .ref p8, .int cm, .ref p9, .ref p10, .ref p11, .int ope, .ref p12, .ref p13, .ref p14, .ref p15, .ref p16, .ref p17, .ref p18, .ref p19, .ref p20, .ref p21, .int (nI he), .ref p22])), (p17, .inl (cL, 8, .inr (.inl LA)))] H := hP
    have hD : va_D zA [(mm, .inr (8, [.int mp, .int (0 : Int32), .int (nI n), .ref p1, .ref p2, .ref p3, .ref p4, .ref p5, .int (nI un), .ref p6, .ref p7, .ref p8, .int cm, .ref p9, .ref p10, .ref p11, .int ope, .ref p12, .ref p13, .ref p14, .ref p15, .ref p16, .ref p17, .ref p18, .ref p19, .ref p20, .ref p21, .int (nI he), .ref p22])), (p17, .inl (cL, 8, .inr (.inl LA)))] := hD
    refine lv_iload_n hx hb d_M_field_5 rfl (lv_at hl 1 rfl) ?_
    refine lv_if_lt (tgt := 15) hx hb d_M_field_6 (by decide) (fun h => absurd h (by decide)) (fun c7 => ?_)
    refine lv_iload_n hx hb d_M_field_9 rfl (lv_at hl 1 rfl) ?_
    refine lv_bipush (v := (7 : Int32)) hx hb d_M_field_10 (by decide) ?_
    refine lv_icmp_le (tgt := 21) hx hb d_M_field_12 (by decide) (fun c8 => ?_) (fun h => absurd h (by decide))
    refine lv_aload_n hx hb d_M_field_21 rfl (lv_at hl 0 rfl) ?_
    refine va_get (D := (dC, dI)) (ci := 8) (v := .ref p17) (C := "UpcastStreamsModel") (T := F_M) (N := 29) hx hb hts in_M hown hK hP 0 rfl rfl 22 (by decide) (hts _ uw_3_153) (fun _ h9 => h9) rfl d_M_field_22 ?_
    refine lv_iload_n hx hb d_M_field_25 rfl (lv_at hl 1 rfl) ?_
    refine us_lald (j := 3) hx hb hK hP 1 1 rfl rfl (by unfold vp_in; decide) (by decide) d_M_field_26 ?_
    exact us_lret hQ (by decide) (by decide) hx hb hr hlk hK hS (LA 3) rfl (by first | exact s0 | exact s1 | exact s2 | exact s3 | exact s4 | exact s5 | exact s6 | exact s7) hP hD d_M_field_27
  · refine lv_aload_n hx hb d_M_field_0 rfl (lv_at hl 0 rfl) ?_
    refine lv_iconst (v := (0 : Int32)) hx hb d_M_field_1 (by decide) ?_
    refine va_put (D := (dC, dI)) (ci := 8) (v := .int (0 : Int32)) (ty := .int) (C := "UpcastStreamsModel") (T := F_M) (N := 29) hx hb hts in_M t_M t_M_ok n_M hown hK hP hD hS 0 rfl rfl 1 (by decide) (hts _ uw_3_132) (fun _ h9 => h9) rfl (by decide +kernel) rfl rfl (Nat.le_of_ble_eq_true rfl) d_M_field_2 (fun H locs hP hD hS => ?_)
    have hP : va_P (dC, dI) vwCl [(mm, .inr (8, [.int mp, .int (0 : Int32), .int (nI n), .ref p1, .ref p2, .ref p3, .ref p4, .ref p5, .int (nI un), .ref p6, .ref p7, .ref p8, .int cm, .ref p9, .ref p10, .ref p11, .int ope, .ref p12, .ref p13, .ref p14, .ref p15, .ref p16, .ref p17, .ref p18, .ref p19, .ref p20, .ref p21, .int (nI he), .ref p22])), (p17, .inl (cL, 8, .inr (.inl LA)))] H := hP
    have hD : va_D zA [(mm, .inr (8, [.int mp, .int (0 : Int32), .int (nI n), .ref p1, .ref p2, .ref p3, .ref p4, .ref p5, .int (nI un), .ref p6, .ref p7, .ref p8, .int cm, .ref p9, .ref p10, .ref p11, .int ope, .ref p12, .ref p13, .ref p14, .ref p15, .ref p16, .ref p17, .ref p18, .ref p19, .ref p20, .ref p21, .int (nI he), .ref p22])), (p17, .inl (cL, 8, .inr (.inl LA)))] := hD
    refine lv_iload_n hx hb d_M_field_5 rfl (lv_at hl 1 rfl) ?_
    refine lv_if_lt (tgt := 15) hx hb d_M_field_6 (by decide) (fun h => absurd h (by decide)) (fun c9 => ?_)
    refine lv_iload_n hx hb d_M_field_9 rfl (lv_at hl 1 rfl) ?_
    refine lv_bipush (v := (7 : Int32)) hx hb d_M_field_10 (by decide) ?_
    refine lv_icmp_le (tgt := 21) hx hb d_M_field_12 (by decide) (fun c10 => ?_) (fun h => absurd h (by decide))
    refine lv_aload_n hx hb d_M_field_21 rfl (lv_at hl 0 rfl) ?_
    refine va_get (D := (dC, dI)) (ci := 8) (v := .ref p17) (C := "UpcastStreamsModel") (T := F_M) (N := 29) hx hb hts in_M hown hK hP 0 rfl rfl 22 (by decide) (hts _ uw_3_153) (fun _ h9 => h9) rfl d_M_field_22 ?_
    refine lv_iload_n hx hb d_M_field_25 rfl (lv_at hl 1 rfl) ?_
    refine us_lald (j := 4) hx hb hK hP 1 1 rfl rfl (by unfold vp_in; decide) (by decide) d_M_field_26 ?_
    exact us_lret hQ (by decide) (by decide) hx hb hr hlk hK hS (LA 4) rfl (by first | exact s0 | exact s1 | exact s2 | exact s3 | exact s4 | exact s5 | exact s6 | exact s7) hP hD d_M_field_27
  · refine lv_aload_n hx hb d_M_field_0 rfl (lv_at hl 0 rfl) ?_
    refine lv_iconst (v := (0 : Int32)) hx hb d_M_field_1 (by decide) ?_
    refine va_put (D := (dC, dI)) (ci := 8) (v := .int (0 : Int32)) (ty := .int) (C := "UpcastStreamsModel") (T := F_M) (N := 29) hx hb hts in_M t_M t_M_ok n_M hown hK hP hD hS 0 rfl rfl 1 (by decide) (hts _ uw_3_132) (fun _ h9 => h9) rfl (by decide +kernel) rfl rfl (Nat.le_of_ble_eq_true rfl) d_M_field_2 (fun H locs hP hD hS => ?_)
    have hP : va_P (dC, dI) vwCl [(mm, .inr (8, [.int mp, .int (0 : Int32), .int (nI n), .ref p1, .ref p2, .ref p3, .ref p4, .ref p5, .int (nI un), .ref p6, .ref p7, .ref p8, .int cm, .ref p9, .ref p10, .ref p11, .int ope, .ref p12, .ref p13, .ref p14, .ref p15, .ref p16, .ref p17, .ref p18, .ref p19, .ref p20, .ref p21, .int (nI he), .ref p22])), (p17, .inl (cL, 8, .inr (.inl LA)))] H := hP
    have hD : va_D zA [(mm, .inr (8, [.int mp, .int (0 : Int32), .int (nI n), .ref p1, .ref p2, .ref p3, .ref p4, .ref p5, .int (nI un), .ref p6, .ref p7, .ref p8, .int cm, .ref p9, .ref p10, .ref p11, .int ope, .ref p12, .ref p13, .ref p14, .ref p15, .ref p16, .ref p17, .ref p18, .ref p19, .ref p20, .ref p21, .int (nI he), .ref p22])), (p17, .inl (cL, 8, .inr (.inl LA)))] := hD
    refine lv_iload_n hx hb d_M_field_5 rfl (lv_at hl 1 rfl) ?_
    refine lv_if_lt (tgt := 15) hx hb d_M_field_6 (by decide) (fun h => absurd h (by decide)) (fun c11 => ?_)
    refine lv_iload_n hx hb d_M_field_9 rfl (lv_at hl 1 rfl) ?_
    refine lv_bipush (v := (7 : Int32)) hx hb d_M_field_10 (by decide) ?_
    refine lv_icmp_le (tgt := 21) hx hb d_M_field_12 (by decide) (fun c12 => ?_) (fun h => absurd h (by decide))
    refine lv_aload_n hx hb d_M_field_21 rfl (lv_at hl 0 rfl) ?_
    refine va_get (D := (dC, dI)) (ci := 8) (v := .ref p17) (C := "UpcastStreamsModel") (T := F_M) (N := 29) hx hb hts in_M hown hK hP 0 rfl rfl 22 (by decide) (hts _ uw_3_153) (fun _ h9 => h9) rfl d_M_field_22 ?_
    refine lv_iload_n hx hb d_M_field_25 rfl (lv_at hl 1 rfl) ?_
    refine us_lald (j := 5) hx hb hK hP 1 1 rfl rfl (by unfold vp_in; decide) (by decide) d_M_field_26 ?_
    exact us_lret hQ (by decide) (by decide) hx hb hr hlk hK hS (LA 5) rfl (by first | exact s0 | exact s1 | exact s2 | exact s3 | exact s4 | exact s5 | exact s6 | exact s7) hP hD d_M_field_27
  · refine lv_aload_n hx hb d_M_field_0 rfl (lv_at hl 0 rfl) ?_
    refine lv_iconst (v := (0 : Int32)) hx hb d_M_field_1 (by decide) ?_
    refine va_put (D := (dC, dI)) (ci := 8) (v := .int (0 : Int32)) (ty := .int) (C := "UpcastStreamsModel") (T := F_M) (N := 29) hx hb hts in_M t_M t_M_ok n_M hown hK hP hD hS 0 rfl rfl 1 (by decide) (hts _ uw_3_132) (fun _ h9 => h9) rfl (by decide +kernel) rfl rfl (Nat.le_of_ble_eq_true rfl) d_M_field_2 (fun H locs hP hD hS => ?_)
    have hP : va_P (dC, dI) vwCl [(mm, .inr (8, [.int mp, .int (0 : Int32), .int (nI n), .ref p1, .ref p2, .ref p3, .ref p4, .ref p5, .int (nI un), .ref p6, .ref p7, .ref p8, .int cm, .ref p9, .ref p10, .ref p11, .int ope, .ref p12, .ref p13, .ref p14, .ref p15, .ref p16, .ref p17, .ref p18, .ref p19, .ref p20, .ref p21, .int (nI he), .ref p22])), (p17, .inl (cL, 8, .inr (.inl LA)))] H := hP
    have hD : va_D zA [(mm, .inr (8, [.int mp, .int (0 : Int32), .int (nI n), .ref p1, .ref p2, .ref p3, .ref p4, .ref p5, .int (nI un), .ref p6, .ref p7, .ref p8, .int cm, .ref p9, .ref p10, .ref p11, .int ope, .ref p12, .ref p13, .ref p14, .ref p15, .ref p16, .ref p17, .ref p18, .ref p19, .ref p20, .ref p21, .int (nI he), .ref p22])), (p17, .inl (cL, 8, .inr (.inl LA)))] := hD
    refine lv_iload_n hx hb d_M_field_5 rfl (lv_at hl 1 rfl) ?_
    refine lv_if_lt (tgt := 15) hx hb d_M_field_6 (by decide) (fun h => absurd h (by decide)) (fun c13 => ?_)
    refine lv_iload_n hx hb d_M_field_9 rfl (lv_at hl 1 rfl) ?_
    refine lv_bipush (v := (7 : Int32)) hx hb d_M_field_10 (by decide) ?_
    refine lv_icmp_le (tgt := 21) hx hb d_M_field_12 (by decide) (fun c14 => ?_) (fun h => absurd h (by decide))
    refine lv_aload_n hx hb d_M_field_21 rfl (lv_at hl 0 rfl) ?_
    refine va_get (D := (dC, dI)) (ci := 8) (v := .ref p17) (C := "UpcastStreamsModel") (T := F_M) (N := 29) hx hb hts in_M hown hK hP 0 rfl rfl 22 (by decide) (hts _ uw_3_153) (fun _ h9 => h9) rfl d_M_field_22 ?_
    refine lv_iload_n hx hb d_M_field_25 rfl (lv_at hl 1 rfl) ?_
    refine us_lald (j := 6) hx hb hK hP 1 1 rfl rfl (by unfold vp_in; decide) (by decide) d_M_field_26 ?_
    exact us_lret hQ (by decide) (by decide) hx hb hr hlk hK hS (LA 6) rfl (by first | exact s0 | exact s1 | exact s2 | exact s3 | exact s4 | exact s5 | exact s6 | exact s7) hP hD d_M_field_27
  · refine lv_aload_n hx hb d_M_field_0 rfl (lv_at hl 0 rfl) ?_
    refine lv_iconst (v := (0 : Int32)) hx hb d_M_field_1 (by decide) ?_
    refine va_put (D := (dC, dI)) (ci := 8) (v := .int (0 : Int32)) (ty := .int) (C := "UpcastStreamsModel") (T := F_M) (N := 29) hx hb hts in_M t_M t_M_ok n_M hown hK hP hD hS 0 rfl rfl 1 (by decide) (hts _ uw_3_132) (fun _ h9 => h9) rfl (by decide +kernel) rfl rfl (Nat.le_of_ble_eq_true rfl) d_M_field_2 (fun H locs hP hD hS => ?_)
    have hP : va_P (dC, dI) vwCl [(mm, .inr (8, [.int mp, .int (0 : Int32), .int (nI n), .ref p1, .ref p2, .ref p3, .ref p4, .ref p5, .int (nI un), .ref p6, .ref p7, .ref p8, .int cm, .ref p9, .ref p10, .ref p11, .int ope, .ref p12, .ref p13, .ref p14, .ref p15, .ref p16, .ref p17, .ref p18, .ref p19, .ref p20, .ref p21, .int (nI he), .ref p22])), (p17, .inl (cL, 8, .inr (.inl LA)))] H := hP
    have hD : va_D zA [(mm, .inr (8, [.int mp, .int (0 : Int32), .int (nI n), .ref p1, .ref p2, .ref p3, .ref p4, .ref p5, .int (nI un), .ref p6, .ref p7, .ref p8, .int cm, .ref p9, .ref p10, .ref p11, .int ope, .ref p12, .ref p13, .ref p14, .ref p15, .ref p16, .ref p17, .ref p18, .ref p19, .ref p20, .ref p21, .int (nI he), .ref p22])), (p17, .inl (cL, 8, .inr (.inl LA)))] := hD
    refine lv_iload_n hx hb d_M_field_5 rfl (lv_at hl 1 rfl) ?_
    refine lv_if_lt (tgt := 15) hx hb d_M_field_6 (by decide) (fun h => absurd h (by decide)) (fun c15 => ?_)
    refine lv_iload_n hx hb d_M_field_9 rfl (lv_at hl 1 rfl) ?_
    refine lv_bipush (v := (7 : Int32)) hx hb d_M_field_10 (by decide) ?_
    refine lv_icmp_le (tgt := 21) hx hb d_M_field_12 (by decide) (fun c16 => ?_) (fun h => absurd h (by decide))
    refine lv_aload_n hx hb d_M_field_21 rfl (lv_at hl 0 rfl) ?_
    refine va_get (D := (dC, dI)) (ci := 8) (v := .ref p17) (C := "UpcastStreamsModel") (T := F_M) (N := 29) hx hb hts in_M hown hK hP 0 rfl rfl 22 (by decide) (hts _ uw_3_153) (fun _ h9 => h9) rfl d_M_field_22 ?_
    refine lv_iload_n hx hb d_M_field_25 rfl (lv_at hl 1 rfl) ?_
    refine us_lald (j := 7) hx hb hK hP 1 1 rfl rfl (by unfold vp_in; decide) (by decide) d_M_field_26 ?_
    exact us_lret hQ (by decide) (by decide) hx hb hr hlk hK hS (LA 7) rfl (by first | exact s0 | exact s1 | exact s2 | exact s3 | exact s4 | exact s5 | exact s6 | exact s7) hP hD d_M_field_27

set_option maxHeartbeats 4000000 in
set_option maxRecDepth 100000 in
theorem m_field_no (zl : Launch) (dC : Nat → ClassId) (dI : Nat → Nat → Nat) (cI cL cS cR : ClassId) (mm : Nat) (p1 : Nat) (p2 : Nat) (p3 : Nat) (p4 : Nat) (p5 : Nat) (p6 : Nat) (p7 : Nat) (p8 : Nat) (p9 : Nat) (p10 : Nat) (p11 : Nat) (p12 : Nat) (p13 : Nat) (p14 : Nat) (p15 : Nat) (p16 : Nat) (p17 : Nat) (p18 : Nat) (p19 : Nat) (p20 : Nat) (p21 : Nat) (p22 : Nat) (mp : Int32) (co : Int32) (cm : Int32) (ope : Int32) (n : Nat) (un : Nat) (he : Nat) (w : Int32) (hbad : ¬ (0 ≤ w ∧ w ≤ 7)) : us_Met (S := Unit) zl y_M_field w_M_field ({ frames := 0, cells := 0, slots := 0, locals := 0 }) (dC, dI) vwCl (us_ty cI cL cS cR) [.ref mm, .int w] [(mm, .inr (8, [.int mp, .int co, .int (nI n), .ref p1, .ref p2, .ref p3, .ref p4, .ref p5, .int (nI un), .ref p6, .ref p7, .ref p8, .int cm, .ref p9, .ref p10, .ref p11, .int ope, .ref p12, .ref p13, .ref p14, .ref p15, .ref p16, .ref p17, .ref p18, .ref p19, .ref p20, .ref p21, .int (nI he), .ref p22]))] (fun u => some (.long (-1 : Int64))) (fun u => True) (fun u => [(mm, .inr (8, [.int mp, .int (0 : Int32), .int (nI n), .ref p1, .ref p2, .ref p3, .ref p4, .ref p5, .int (nI un), .ref p6, .ref p7, .ref p8, .int cm, .ref p9, .ref p10, .ref p11, .int ope, .ref p12, .ref p13, .ref p14, .ref p15, .ref p16, .ref p17, .ref p18, .ref p19, .ref p20, .ref p21, .int (nI he), .ref p22]))]) := by
  refine us_ofW (cc := b_M_field) (maxL := 2) (ret := (some .long)) (by decide) (Nat.le_of_ble_eq_true rfl) ?_
  intro zp ze zs zm args below meth zc zA ls zQ hQ hx hb hr hml hts hown hlk hin hl hK hP hD hS hA
  have hown : zs.vm.findClass "UpcastStreamsModel" = some zm.cls := hown
  have hl : lv_has ls 2 [(0, .ref mm), (1, .int w)] := hl
  obtain ⟨H, hH⟩ : ∃ H, H = zs.heap := ⟨_, rfl⟩
  rw [← hH] at hP ⊢
  have hS : va_S zA zs.heap H [] := hH ▸ hS
  generalize ([] : List Loc) = locs at hS ⊢
  refine lv_aload_n hx hb d_M_field_0 rfl (lv_at hl 0 rfl) ?_
  refine lv_iconst (v := (0 : Int32)) hx hb d_M_field_1 (by decide) ?_
  refine va_put (D := (dC, dI)) (ci := 8) (v := .int (0 : Int32)) (ty := .int) (C := "UpcastStreamsModel") (T := F_M) (N := 29) hx hb hts in_M t_M t_M_ok n_M hown hK hP hD hS 0 rfl rfl 1 (by decide) (hts _ uw_3_132) (fun _ h9 => h9) rfl (by decide +kernel) rfl rfl (Nat.le_of_ble_eq_true rfl) d_M_field_2 (fun H locs hP hD hS => ?_)
  have hP : va_P (dC, dI) vwCl [(mm, .inr (8, [.int mp, .int (0 : Int32), .int (nI n), .ref p1, .ref p2, .ref p3, .ref p4, .ref p5, .int (nI un), .ref p6, .ref p7, .ref p8, .int cm, .ref p9, .ref p10, .ref p11, .int ope, .ref p12, .ref p13, .ref p14, .ref p15, .ref p16, .ref p17, .ref p18, .ref p19, .ref p20, .ref p21, .int (nI he), .ref p22]))] H := hP
  have hD : va_D zA [(mm, .inr (8, [.int mp, .int (0 : Int32), .int (nI n), .ref p1, .ref p2, .ref p3, .ref p4, .ref p5, .int (nI un), .ref p6, .ref p7, .ref p8, .int cm, .ref p9, .ref p10, .ref p11, .int ope, .ref p12, .ref p13, .ref p14, .ref p15, .ref p16, .ref p17, .ref p18, .ref p19, .ref p20, .ref p21, .int (nI he), .ref p22]))] := hD
  refine lv_iload_n hx hb d_M_field_5 rfl (lv_at hl 1 rfl) ?_
  refine lv_if_lt (tgt := 15) hx hb d_M_field_6 (by decide) (fun c6 => ?_) (fun c6 => ?_)
  · refine lv_ldc2 (v := (-1 : Int64)) hx hb hown (hts _ uw_4_76) d_M_field_15 ?_
    refine lv_goto (tgt := 27) hx hb d_M_field_18 (by decide) ?_
    exact us_lret hQ (by decide) (by decide) hx hb hr hlk hK hS () rfl (by simp) hP hD d_M_field_27
  · refine lv_iload_n hx hb d_M_field_9 rfl (lv_at hl 1 rfl) ?_
    refine lv_bipush (v := (7 : Int32)) hx hb d_M_field_10 (by decide) ?_
    refine lv_icmp_le (tgt := 21) hx hb d_M_field_12 (by decide) (fun h => absurd ⟨Int32.not_lt.mp c6, h⟩ hbad) (fun c2 => ?_)
    refine lv_ldc2 (v := (-1 : Int64)) hx hb hown (hts _ uw_4_76) d_M_field_15 ?_
    refine lv_goto (tgt := 27) hx hb d_M_field_18 (by decide) ?_
    exact us_lret hQ (by decide) (by decide) hx hb hr hlk hK hS () rfl (by simp) hP hD d_M_field_27

set_option maxHeartbeats 4000000 in
set_option maxRecDepth 100000 in
theorem m_snapshot0 (zl : Launch) (dC : Nat → ClassId) (dI : Nat → Nat → Nat) (cI cL cS cR : ClassId) (mm : Nat) (p1 : Nat) (p2 : Nat) (p3 : Nat) (p4 : Nat) (p5 : Nat) (p6 : Nat) (p7 : Nat) (p8 : Nat) (p9 : Nat) (p10 : Nat) (p11 : Nat) (p12 : Nat) (p13 : Nat) (p14 : Nat) (p15 : Nat) (p16 : Nat) (p17 : Nat) (p18 : Nat) (p19 : Nat) (p20 : Nat) (p21 : Nat) (p22 : Nat) (mp : Int32) (co : Int32) (cm : Int32) (ope : Int32) (n : Nat) (un : Nat) (he : Nat) (SN : Nat → Int32) (j : Nat) (hj : j < 8) : us_Met (S := Unit) zl y_M_snapshot w_M_snapshot ({ frames := 1, cells := 0, slots := 0, locals := 20 }) (dC, dI) vwCl (us_ty cI cL cS cR) [.ref mm, .int (nI j), .int (0 : Int32)] [(mm, .inr (8, [.int mp, .int co, .int (nI n), .ref p1, .ref p2, .ref p3, .ref p4, .ref p5, .int (nI un), .ref p6, .ref p7, .ref p8, .int cm, .ref p9, .ref p10, .ref p11, .int ope, .ref p12, .ref p13, .ref p14, .ref p15, .ref p16, .ref p17, .ref p18, .ref p19, .ref p20, .ref p21, .int (nI he), .ref p22])), (p8, .inl (cI, 16, .inl SN))] (fun u => some (.int (SN (2 * j)))) (fun u => True) (fun u => [(mm, .inr (8, [.int mp, .int (0 : Int32), .int (nI n), .ref p1, .ref p2, .ref p3, .ref p4, .ref p5, .int (nI un), .ref p6, .ref p7, .ref p8, .int cm, .ref p9, .ref p10, .ref p11, .int ope, .ref p12, .ref p13, .ref p14, .ref p15, .ref p16, .ref p17, .ref p18, .ref p19, .ref p20, .ref p21, .int (nI he), .ref p22])), (p8, .inl (cI, 16, .inl SN))]) := by
  refine us_ofW (cc := b_M_snapshot) (maxL := 3) (ret := (some .int)) (by decide) (Nat.le_of_ble_eq_true rfl) ?_
  intro zp ze zs zm args below meth zc zA ls zQ hQ hx hb hr hml hts hown hlk hin hl hK hP hD hS hA
  have hown : zs.vm.findClass "UpcastStreamsModel" = some zm.cls := hown
  have hl : lv_has ls 3 [(0, .ref mm), (1, .int (nI j)), (2, .int (0 : Int32))] := hl
  obtain ⟨H, hH⟩ : ∃ H, H = zs.heap := ⟨_, rfl⟩
  rw [← hH] at hP ⊢
  have hS : va_S zA zs.heap H [] := hH ▸ hS
  generalize ([] : List Loc) = locs at hS ⊢
  refine lv_aload_n hx hb d_M_snapshot_0 rfl (lv_at hl 0 rfl) ?_
  refine lv_iconst (v := (0 : Int32)) hx hb d_M_snapshot_1 (by decide) ?_
  refine va_put (D := (dC, dI)) (ci := 8) (v := .int (0 : Int32)) (ty := .int) (C := "UpcastStreamsModel") (T := F_M) (N := 29) hx hb hts in_M t_M t_M_ok n_M hown hK hP hD hS 0 rfl rfl 1 (by decide) (hts _ uw_3_132) (fun _ h9 => h9) rfl (by decide +kernel) rfl rfl (Nat.le_of_ble_eq_true rfl) d_M_snapshot_2 (fun H locs hP hD hS => ?_)
  have hP : va_P (dC, dI) vwCl [(mm, .inr (8, [.int mp, .int (0 : Int32), .int (nI n), .ref p1, .ref p2, .ref p3, .ref p4, .ref p5, .int (nI un), .ref p6, .ref p7, .ref p8, .int cm, .ref p9, .ref p10, .ref p11, .int ope, .ref p12, .ref p13, .ref p14, .ref p15, .ref p16, .ref p17, .ref p18, .ref p19, .ref p20, .ref p21, .int (nI he), .ref p22])), (p8, .inl (cI, 16, .inl SN))] H := hP
  have hD : va_D zA [(mm, .inr (8, [.int mp, .int (0 : Int32), .int (nI n), .ref p1, .ref p2, .ref p3, .ref p4, .ref p5, .int (nI un), .ref p6, .ref p7, .ref p8, .int cm, .ref p9, .ref p10, .ref p11, .int ope, .ref p12, .ref p13, .ref p14, .ref p15, .ref p16, .ref p17, .ref p18, .ref p19, .ref p20, .ref p21, .int (nI he), .ref p22])), (p8, .inl (cI, 16, .inl SN))] := hD
  refine lv_iload_n hx hb d_M_snapshot_5 rfl (lv_at hl 1 rfl) ?_
  refine us_callRS (As := [.int (nI j)]) (rest := []) ⟨hx, hb, hml, hown, hts⟩ (m_isStream zl dC dI cI cL cS cR (nI j) ) ⟨callB_of 1 hts (us_gC k_M_isStream) rfl rfl rfl (hts _ uw_1_10) (hts _ uw_3_239) h_M_isStream.2 ⟨by decide, by decide⟩, (hts _ uw_4_0)⟩ hK hP hS hA [] rfl rfl hl.1 rfl (Nat.le_of_ble_eq_true rfl) d_M_snapshot_6 ⟨by decide, by decide⟩ (fun u H locs w6 hP hS => ?_)
  obtain ⟨r6, rfl⟩ : ∃ z, z = u := ⟨_, rfl⟩
  try dsimp only at w6
  refine W.eq (g2 := F0 zm 9 ls [.int r6]) rfl ?_
  refine lv_if_eq (tgt := 21) hx hb d_M_snapshot_9 (by decide) (fun h => absurd ⟨nI_pos' (by omega), nI_lt (b := 8) hj (by omega)⟩ (us_d0 w6 h)) (fun c1 => ?_)
  refine lv_iload_n hx hb d_M_snapshot_12 rfl (lv_at hl 2 rfl) ?_
  refine lv_if_lt (tgt := 21) hx hb d_M_snapshot_13 (by decide) (fun h => absurd h (by decide)) (fun c2 => ?_)
  refine lv_iload_n hx hb d_M_snapshot_16 rfl (lv_at hl 2 rfl) ?_
  refine lv_iconst (v := (1 : Int32)) hx hb d_M_snapshot_17 (by decide) ?_
  refine lv_icmp_le (tgt := 25) hx hb d_M_snapshot_18 (by decide) (fun c3 => ?_) (fun h => absurd h (by decide))
  refine lv_aload_n hx hb d_M_snapshot_25 rfl (lv_at hl 0 rfl) ?_
  refine va_get (D := (dC, dI)) (ci := 8) (v := .ref p8) (C := "UpcastStreamsModel") (T := F_M) (N := 29) hx hb hts in_M hown hK hP 0 rfl rfl 11 (by decide) (hts _ uw_3_142) (fun _ h9 => h9) rfl d_M_snapshot_26 ?_
  refine lv_iconst (v := (2 : Int32)) hx hb d_M_snapshot_29 (by decide) ?_
  refine lv_iload_n hx hb d_M_snapshot_30 rfl (lv_at hl 1 rfl) ?_
  refine lv_imul hx hb d_M_snapshot_31 ?_
  refine us_top (show ((2 : Int32) * (nI j)) = (nI (2 * j)) from us_2j hj) ?_
  refine lv_iload_n hx hb d_M_snapshot_32 rfl (lv_at hl 2 rfl) ?_
  refine lv_iadd hx hb d_M_snapshot_33 ?_
  refine us_top (show ((nI (2 * j)) + (0 : Int32)) = (nI (2 * j)) from us_p0 _) ?_
  refine us_iald (j := 2 * j) hx hb hK hP 1 0 rfl rfl (vp_in_nI (by omega) (by omega)) (nI_clamp (by omega)) d_M_snapshot_34 ?_
  exact us_iret hQ (by decide) (by decide) hx hb hr hlk hK hS () rfl (by simp) hP hD d_M_snapshot_35

set_option maxHeartbeats 4000000 in
set_option maxRecDepth 100000 in
theorem m_snapshot1 (zl : Launch) (dC : Nat → ClassId) (dI : Nat → Nat → Nat) (cI cL cS cR : ClassId) (mm : Nat) (p1 : Nat) (p2 : Nat) (p3 : Nat) (p4 : Nat) (p5 : Nat) (p6 : Nat) (p7 : Nat) (p8 : Nat) (p9 : Nat) (p10 : Nat) (p11 : Nat) (p12 : Nat) (p13 : Nat) (p14 : Nat) (p15 : Nat) (p16 : Nat) (p17 : Nat) (p18 : Nat) (p19 : Nat) (p20 : Nat) (p21 : Nat) (p22 : Nat) (mp : Int32) (co : Int32) (cm : Int32) (ope : Int32) (n : Nat) (un : Nat) (he : Nat) (SN : Nat → Int32) (j : Nat) (hj : j < 8) : us_Met (S := Unit) zl y_M_snapshot w_M_snapshot ({ frames := 1, cells := 0, slots := 0, locals := 20 }) (dC, dI) vwCl (us_ty cI cL cS cR) [.ref mm, .int (nI j), .int (1 : Int32)] [(mm, .inr (8, [.int mp, .int co, .int (nI n), .ref p1, .ref p2, .ref p3, .ref p4, .ref p5, .int (nI un), .ref p6, .ref p7, .ref p8, .int cm, .ref p9, .ref p10, .ref p11, .int ope, .ref p12, .ref p13, .ref p14, .ref p15, .ref p16, .ref p17, .ref p18, .ref p19, .ref p20, .ref p21, .int (nI he), .ref p22])), (p8, .inl (cI, 16, .inl SN))] (fun u => some (.int (SN (2 * j + 1)))) (fun u => True) (fun u => [(mm, .inr (8, [.int mp, .int (0 : Int32), .int (nI n), .ref p1, .ref p2, .ref p3, .ref p4, .ref p5, .int (nI un), .ref p6, .ref p7, .ref p8, .int cm, .ref p9, .ref p10, .ref p11, .int ope, .ref p12, .ref p13, .ref p14, .ref p15, .ref p16, .ref p17, .ref p18, .ref p19, .ref p20, .ref p21, .int (nI he), .ref p22])), (p8, .inl (cI, 16, .inl SN))]) := by
  refine us_ofW (cc := b_M_snapshot) (maxL := 3) (ret := (some .int)) (by decide) (Nat.le_of_ble_eq_true rfl) ?_
  intro zp ze zs zm args below meth zc zA ls zQ hQ hx hb hr hml hts hown hlk hin hl hK hP hD hS hA
  have hown : zs.vm.findClass "UpcastStreamsModel" = some zm.cls := hown
  have hl : lv_has ls 3 [(0, .ref mm), (1, .int (nI j)), (2, .int (1 : Int32))] := hl
  obtain ⟨H, hH⟩ : ∃ H, H = zs.heap := ⟨_, rfl⟩
  rw [← hH] at hP ⊢
  have hS : va_S zA zs.heap H [] := hH ▸ hS
  generalize ([] : List Loc) = locs at hS ⊢
  refine lv_aload_n hx hb d_M_snapshot_0 rfl (lv_at hl 0 rfl) ?_
  refine lv_iconst (v := (0 : Int32)) hx hb d_M_snapshot_1 (by decide) ?_
  refine va_put (D := (dC, dI)) (ci := 8) (v := .int (0 : Int32)) (ty := .int) (C := "UpcastStreamsModel") (T := F_M) (N := 29) hx hb hts in_M t_M t_M_ok n_M hown hK hP hD hS 0 rfl rfl 1 (by decide) (hts _ uw_3_132) (fun _ h9 => h9) rfl (by decide +kernel) rfl rfl (Nat.le_of_ble_eq_true rfl) d_M_snapshot_2 (fun H locs hP hD hS => ?_)
  have hP : va_P (dC, dI) vwCl [(mm, .inr (8, [.int mp, .int (0 : Int32), .int (nI n), .ref p1, .ref p2, .ref p3, .ref p4, .ref p5, .int (nI un), .ref p6, .ref p7, .ref p8, .int cm, .ref p9, .ref p10, .ref p11, .int ope, .ref p12, .ref p13, .ref p14, .ref p15, .ref p16, .ref p17, .ref p18, .ref p19, .ref p20, .ref p21, .int (nI he), .ref p22])), (p8, .inl (cI, 16, .inl SN))] H := hP
  have hD : va_D zA [(mm, .inr (8, [.int mp, .int (0 : Int32), .int (nI n), .ref p1, .ref p2, .ref p3, .ref p4, .ref p5, .int (nI un), .ref p6, .ref p7, .ref p8, .int cm, .ref p9, .ref p10, .ref p11, .int ope, .ref p12, .ref p13, .ref p14, .ref p15, .ref p16, .ref p17, .ref p18, .ref p19, .ref p20, .ref p21, .int (nI he), .ref p22])), (p8, .inl (cI, 16, .inl SN))] := hD
  refine lv_iload_n hx hb d_M_snapshot_5 rfl (lv_at hl 1 rfl) ?_
  refine us_callRS (As := [.int (nI j)]) (rest := []) ⟨hx, hb, hml, hown, hts⟩ (m_isStream zl dC dI cI cL cS cR (nI j) ) ⟨callB_of 1 hts (us_gC k_M_isStream) rfl rfl rfl (hts _ uw_1_10) (hts _ uw_3_239) h_M_isStream.2 ⟨by decide, by decide⟩, (hts _ uw_4_0)⟩ hK hP hS hA [] rfl rfl hl.1 rfl (Nat.le_of_ble_eq_true rfl) d_M_snapshot_6 ⟨by decide, by decide⟩ (fun u H locs w6 hP hS => ?_)
  obtain ⟨r6, rfl⟩ : ∃ z, z = u := ⟨_, rfl⟩
  try dsimp only at w6
  refine W.eq (g2 := F0 zm 9 ls [.int r6]) rfl ?_
  refine lv_if_eq (tgt := 21) hx hb d_M_snapshot_9 (by decide) (fun h => absurd ⟨nI_pos' (by omega), nI_lt (b := 8) hj (by omega)⟩ (us_d0 w6 h)) (fun c1 => ?_)
  refine lv_iload_n hx hb d_M_snapshot_12 rfl (lv_at hl 2 rfl) ?_
  refine lv_if_lt (tgt := 21) hx hb d_M_snapshot_13 (by decide) (fun h => absurd h (by decide)) (fun c2 => ?_)
  refine lv_iload_n hx hb d_M_snapshot_16 rfl (lv_at hl 2 rfl) ?_
  refine lv_iconst (v := (1 : Int32)) hx hb d_M_snapshot_17 (by decide) ?_
  refine lv_icmp_le (tgt := 25) hx hb d_M_snapshot_18 (by decide) (fun c3 => ?_) (fun h => absurd h (by decide))
  refine lv_aload_n hx hb d_M_snapshot_25 rfl (lv_at hl 0 rfl) ?_
  refine va_get (D := (dC, dI)) (ci := 8) (v := .ref p8) (C := "UpcastStreamsModel") (T := F_M) (N := 29) hx hb hts in_M hown hK hP 0 rfl rfl 11 (by decide) (hts _ uw_3_142) (fun _ h9 => h9) rfl d_M_snapshot_26 ?_
  refine lv_iconst (v := (2 : Int32)) hx hb d_M_snapshot_29 (by decide) ?_
  refine lv_iload_n hx hb d_M_snapshot_30 rfl (lv_at hl 1 rfl) ?_
  refine lv_imul hx hb d_M_snapshot_31 ?_
  refine us_top (show ((2 : Int32) * (nI j)) = (nI (2 * j)) from us_2j hj) ?_
  refine lv_iload_n hx hb d_M_snapshot_32 rfl (lv_at hl 2 rfl) ?_
  refine lv_iadd hx hb d_M_snapshot_33 ?_
  refine us_top (show ((nI (2 * j)) + (1 : Int32)) = (nI (2 * j + 1)) from nI_1 _) ?_
  refine us_iald (j := 2 * j + 1) hx hb hK hP 1 0 rfl rfl (vp_in_nI (by omega) (by omega)) (nI_clamp (by omega)) d_M_snapshot_34 ?_
  exact us_iret hQ (by decide) (by decide) hx hb hr hlk hK hS () rfl (by simp) hP hD d_M_snapshot_35

set_option maxHeartbeats 4000000 in
set_option maxRecDepth 100000 in
theorem m_snapshot_no (zl : Launch) (dC : Nat → ClassId) (dI : Nat → Nat → Nat) (cI cL cS cR : ClassId) (mm : Nat) (p1 : Nat) (p2 : Nat) (p3 : Nat) (p4 : Nat) (p5 : Nat) (p6 : Nat) (p7 : Nat) (p8 : Nat) (p9 : Nat) (p10 : Nat) (p11 : Nat) (p12 : Nat) (p13 : Nat) (p14 : Nat) (p15 : Nat) (p16 : Nat) (p17 : Nat) (p18 : Nat) (p19 : Nat) (p20 : Nat) (p21 : Nat) (p22 : Nat) (mp : Int32) (co : Int32) (cm : Int32) (ope : Int32) (n : Nat) (un : Nat) (he : Nat) (y : Int32) (w : Int32) (hbad : ¬ ((0 ≤ y ∧ y < 8) ∧ 0 ≤ w ∧ w ≤ 1)) : us_Met (S := Unit) zl y_M_snapshot w_M_snapshot ({ frames := 1, cells := 0, slots := 0, locals := 20 }) (dC, dI) vwCl (us_ty cI cL cS cR) [.ref mm, .int y, .int w] [(mm, .inr (8, [.int mp, .int co, .int (nI n), .ref p1, .ref p2, .ref p3, .ref p4, .ref p5, .int (nI un), .ref p6, .ref p7, .ref p8, .int cm, .ref p9, .ref p10, .ref p11, .int ope, .ref p12, .ref p13, .ref p14, .ref p15, .ref p16, .ref p17, .ref p18, .ref p19, .ref p20, .ref p21, .int (nI he), .ref p22]))] (fun u => some (.int (-1 : Int32))) (fun u => True) (fun u => [(mm, .inr (8, [.int mp, .int (0 : Int32), .int (nI n), .ref p1, .ref p2, .ref p3, .ref p4, .ref p5, .int (nI un), .ref p6, .ref p7, .ref p8, .int cm, .ref p9, .ref p10, .ref p11, .int ope, .ref p12, .ref p13, .ref p14, .ref p15, .ref p16, .ref p17, .ref p18, .ref p19, .ref p20, .ref p21, .int (nI he), .ref p22]))]) := by
  refine us_ofW (cc := b_M_snapshot) (maxL := 3) (ret := (some .int)) (by decide) (Nat.le_of_ble_eq_true rfl) ?_
  intro zp ze zs zm args below meth zc zA ls zQ hQ hx hb hr hml hts hown hlk hin hl hK hP hD hS hA
  have hown : zs.vm.findClass "UpcastStreamsModel" = some zm.cls := hown
  have hl : lv_has ls 3 [(0, .ref mm), (1, .int y), (2, .int w)] := hl
  obtain ⟨H, hH⟩ : ∃ H, H = zs.heap := ⟨_, rfl⟩
  rw [← hH] at hP ⊢
  have hS : va_S zA zs.heap H [] := hH ▸ hS
  generalize ([] : List Loc) = locs at hS ⊢
  refine lv_aload_n hx hb d_M_snapshot_0 rfl (lv_at hl 0 rfl) ?_
  refine lv_iconst (v := (0 : Int32)) hx hb d_M_snapshot_1 (by decide) ?_
  refine va_put (D := (dC, dI)) (ci := 8) (v := .int (0 : Int32)) (ty := .int) (C := "UpcastStreamsModel") (T := F_M) (N := 29) hx hb hts in_M t_M t_M_ok n_M hown hK hP hD hS 0 rfl rfl 1 (by decide) (hts _ uw_3_132) (fun _ h9 => h9) rfl (by decide +kernel) rfl rfl (Nat.le_of_ble_eq_true rfl) d_M_snapshot_2 (fun H locs hP hD hS => ?_)
  have hP : va_P (dC, dI) vwCl [(mm, .inr (8, [.int mp, .int (0 : Int32), .int (nI n), .ref p1, .ref p2, .ref p3, .ref p4, .ref p5, .int (nI un), .ref p6, .ref p7, .ref p8, .int cm, .ref p9, .ref p10, .ref p11, .int ope, .ref p12, .ref p13, .ref p14, .ref p15, .ref p16, .ref p17, .ref p18, .ref p19, .ref p20, .ref p21, .int (nI he), .ref p22]))] H := hP
  have hD : va_D zA [(mm, .inr (8, [.int mp, .int (0 : Int32), .int (nI n), .ref p1, .ref p2, .ref p3, .ref p4, .ref p5, .int (nI un), .ref p6, .ref p7, .ref p8, .int cm, .ref p9, .ref p10, .ref p11, .int ope, .ref p12, .ref p13, .ref p14, .ref p15, .ref p16, .ref p17, .ref p18, .ref p19, .ref p20, .ref p21, .int (nI he), .ref p22]))] := hD
  refine lv_iload_n hx hb d_M_snapshot_5 rfl (lv_at hl 1 rfl) ?_
  refine us_callRS (As := [.int y]) (rest := []) ⟨hx, hb, hml, hown, hts⟩ (m_isStream zl dC dI cI cL cS cR y ) ⟨callB_of 1 hts (us_gC k_M_isStream) rfl rfl rfl (hts _ uw_1_10) (hts _ uw_3_239) h_M_isStream.2 ⟨by decide, by decide⟩, (hts _ uw_4_0)⟩ hK hP hS hA [] rfl rfl hl.1 rfl (Nat.le_of_ble_eq_true rfl) d_M_snapshot_6 ⟨by decide, by decide⟩ (fun u H locs w6 hP hS => ?_)
  obtain ⟨r6, rfl⟩ : ∃ z, z = u := ⟨_, rfl⟩
  try dsimp only at w6
  refine W.eq (g2 := F0 zm 9 ls [.int r6]) rfl ?_
  refine lv_if_eq (tgt := 21) hx hb d_M_snapshot_9 (by decide) (fun c9 => ?_) (fun c9 => ?_)
  · refine lv_iconst (v := (-1 : Int32)) hx hb d_M_snapshot_21 (by decide) ?_
    refine lv_goto (tgt := 35) hx hb d_M_snapshot_22 (by decide) ?_
    exact us_iret hQ (by decide) (by decide) hx hb hr hlk hK hS () rfl (by simp) hP hD d_M_snapshot_35
  · refine lv_iload_n hx hb d_M_snapshot_12 rfl (lv_at hl 2 rfl) ?_
    refine lv_if_lt (tgt := 21) hx hb d_M_snapshot_13 (by decide) (fun c13 => ?_) (fun c13 => ?_)
    · refine lv_iconst (v := (-1 : Int32)) hx hb d_M_snapshot_21 (by decide) ?_
      refine lv_goto (tgt := 35) hx hb d_M_snapshot_22 (by decide) ?_
      exact us_iret hQ (by decide) (by decide) hx hb hr hlk hK hS () rfl (by simp) hP hD d_M_snapshot_35
    · refine lv_iload_n hx hb d_M_snapshot_16 rfl (lv_at hl 2 rfl) ?_
      refine lv_iconst (v := (1 : Int32)) hx hb d_M_snapshot_17 (by decide) ?_
      refine lv_icmp_le (tgt := 25) hx hb d_M_snapshot_18 (by decide) (fun h => absurd ⟨us_d1 w6 c9, Int32.not_lt.mp c13, h⟩ hbad) (fun c3 => ?_)
      refine lv_iconst (v := (-1 : Int32)) hx hb d_M_snapshot_21 (by decide) ?_
      refine lv_goto (tgt := 35) hx hb d_M_snapshot_22 (by decide) ?_
      exact us_iret hQ (by decide) (by decide) hx hb hr hlk hK hS () rfl (by simp) hP hD d_M_snapshot_35

set_option maxHeartbeats 4000000 in
set_option maxRecDepth 100000 in
theorem m_follow (zl : Launch) (dC : Nat → ClassId) (dI : Nat → Nat → Nat) (cI cL cS cR : ClassId) (mm : Nat) (p1 : Nat) (p2 : Nat) (p3 : Nat) (p4 : Nat) (p5 : Nat) (p6 : Nat) (p7 : Nat) (p8 : Nat) (p9 : Nat) (p10 : Nat) (p11 : Nat) (p12 : Nat) (p13 : Nat) (p14 : Nat) (p15 : Nat) (p16 : Nat) (p17 : Nat) (p18 : Nat) (p19 : Nat) (p20 : Nat) (p21 : Nat) (p22 : Nat) (mp : Int32) (co : Int32) (cm : Int32) (ope : Int32) (n : Nat) (un : Nat) (he : Nat) (RC : Nat → Int32) (RM : Nat → Int32) (RS : Nat → Int32) (RT : Nat → Int32) (j : Nat) (k : Nat) (a : Int32) (b : Int32) (hj : j < 4) (hk : k ≤ n) (hn64 : n ≤ 64) : us_Met (S := Unit) zl y_M_follow w_M_follow ({ frames := 1, cells := 0, slots := 0, locals := 20 }) (dC, dI) vwCl (us_ty cI cL cS cR) [.ref mm, .int (nI j), .int a, .int b, .int (nI k)] [(mm, .inr (8, [.int mp, .int co, .int (nI n), .ref p1, .ref p2, .ref p3, .ref p4, .ref p5, .int (nI un), .ref p6, .ref p7, .ref p8, .int cm, .ref p9, .ref p10, .ref p11, .int ope, .ref p12, .ref p13, .ref p14, .ref p15, .ref p16, .ref p17, .ref p18, .ref p19, .ref p20, .ref p21, .int (nI he), .ref p22])), (p18, .inl (cI, 4, .inl RC)), (p19, .inl (cI, 4, .inl RM)), (p20, .inl (cI, 4, .inl RS)), (p21, .inl (cI, 4, .inl RT))] (fun _ => none) (fun u => True) (fun u => [(mm, .inr (8, [.int mp, .int (0 : Int32), .int (nI n), .ref p1, .ref p2, .ref p3, .ref p4, .ref p5, .int (nI un), .ref p6, .ref p7, .ref p8, .int cm, .ref p9, .ref p10, .ref p11, .int ope, .ref p12, .ref p13, .ref p14, .ref p15, .ref p16, .ref p17, .ref p18, .ref p19, .ref p20, .ref p21, .int (nI he), .ref p22])), (p18, .inl (cI, 4, .inl (upd RC j (nI k)))), (p19, .inl (cI, 4, .inl (upd RM j (nI k)))), (p20, .inl (cI, 4, .inl (upd RS j (a &&& 255)))), (p21, .inl (cI, 4, .inl (upd RT j (b &&& 63))))]) := by
  refine us_ofW (cc := b_M_follow) (maxL := 5) (ret := none) (by decide) (Nat.le_of_ble_eq_true rfl) ?_
  intro zp ze zs zm args below meth zc zA ls zQ hQ hx hb hr hml hts hown hlk hin hl hK hP hD hS hA
  have hown : zs.vm.findClass "UpcastStreamsModel" = some zm.cls := hown
  have hl : lv_has ls 5 [(0, .ref mm), (1, .int (nI j)), (2, .int a), (3, .int b), (4, .int (nI k))] := hl
  obtain ⟨H, hH⟩ : ∃ H, H = zs.heap := ⟨_, rfl⟩
  rw [← hH] at hP ⊢
  have hS : va_S zA zs.heap H [] := hH ▸ hS
  generalize ([] : List Loc) = locs at hS ⊢
  refine lv_aload_n hx hb d_M_follow_0 rfl (lv_at hl 0 rfl) ?_
  refine lv_iload_n hx hb d_M_follow_1 rfl (lv_at hl 1 rfl) ?_
  refine us_callRS (As := [.int (nI j)]) (rest := [.ref mm]) ⟨hx, hb, hml, hown, hts⟩ (m_isReader zl dC dI cI cL cS cR (nI j) ) ⟨callB_of 1 hts (us_gC k_M_isReader) rfl rfl rfl (hts _ uw_1_10) (hts _ uw_4_85) h_M_isReader.2 ⟨by decide, by decide⟩, (hts _ uw_4_86)⟩ hK hP hS hA [] rfl rfl hl.1 rfl (Nat.le_of_ble_eq_true rfl) d_M_follow_2 ⟨by decide, by decide⟩ (fun u H locs w2 hP hS => ?_)
  obtain ⟨r2, rfl⟩ : ∃ z, z = u := ⟨_, rfl⟩
  try dsimp only at w2
  refine W.eq (g2 := F0 zm 5 ls [.int r2, .ref mm]) rfl ?_
  refine lv_if_eq (tgt := 22) hx hb d_M_follow_5 (by decide) (fun h => absurd ⟨nI_pos' (by omega), nI_lt (b := 4) hj (by omega)⟩ (us_d0 w2 h)) (fun c1 => ?_)
  refine lv_iload hx hb d_M_follow_8 (lv_at hl 4 rfl) ?_
  refine lv_if_lt (tgt := 22) hx hb d_M_follow_10 (by decide) (fun h => absurd h (nI_pos (by omega))) (fun c2 => ?_)
  refine lv_iload hx hb d_M_follow_13 (lv_at hl 4 rfl) ?_
  refine lv_aload_n hx hb d_M_follow_15 rfl (lv_at hl 0 rfl) ?_
  refine va_get (D := (dC, dI)) (ci := 8) (v := .int (nI n)) (C := "UpcastStreamsModel") (T := F_M) (N := 29) hx hb hts in_M hown hK hP 0 rfl rfl 2 (by decide) (hts _ uw_3_133) (fun _ h9 => h9) rfl d_M_follow_16 ?_
  refine lv_icmp_le (tgt := 26) hx hb d_M_follow_19 (by decide) (fun c3 => ?_) (fun h => absurd (nI_le hk (by omega)) h)
  refine lv_iconst (v := (0 : Int32)) hx hb d_M_follow_26 (by decide) ?_
  refine va_put (D := (dC, dI)) (ci := 8) (v := .int (0 : Int32)) (ty := .int) (C := "UpcastStreamsModel") (T := F_M) (N := 29) hx hb hts in_M t_M t_M_ok n_M hown hK hP hD hS 0 rfl rfl 1 (by decide) (hts _ uw_3_132) (fun _ h9 => h9) rfl (by decide +kernel) rfl rfl (Nat.le_of_ble_eq_true rfl) d_M_follow_27 (fun H locs hP hD hS => ?_)
  have hP : va_P (dC, dI) vwCl [(mm, .inr (8, [.int mp, .int (0 : Int32), .int (nI n), .ref p1, .ref p2, .ref p3, .ref p4, .ref p5, .int (nI un), .ref p6, .ref p7, .ref p8, .int cm, .ref p9, .ref p10, .ref p11, .int ope, .ref p12, .ref p13, .ref p14, .ref p15, .ref p16, .ref p17, .ref p18, .ref p19, .ref p20, .ref p21, .int (nI he), .ref p22])), (p18, .inl (cI, 4, .inl RC)), (p19, .inl (cI, 4, .inl RM)), (p20, .inl (cI, 4, .inl RS)), (p21, .inl (cI, 4, .inl RT))] H := hP
  have hD : va_D zA [(mm, .inr (8, [.int mp, .int (0 : Int32), .int (nI n), .ref p1, .ref p2, .ref p3, .ref p4, .ref p5, .int (nI un), .ref p6, .ref p7, .ref p8, .int cm, .ref p9, .ref p10, .ref p11, .int ope, .ref p12, .ref p13, .ref p14, .ref p15, .ref p16, .ref p17, .ref p18, .ref p19, .ref p20, .ref p21, .int (nI he), .ref p22])), (p18, .inl (cI, 4, .inl RC)), (p19, .inl (cI, 4, .inl RM)), (p20, .inl (cI, 4, .inl RS)), (p21, .inl (cI, 4, .inl RT))] := hD
  refine lv_aload_n hx hb d_M_follow_30 rfl (lv_at hl 0 rfl) ?_
  refine va_get (D := (dC, dI)) (ci := 8) (v := .int (0 : Int32)) (C := "UpcastStreamsModel") (T := F_M) (N := 29) hx hb hts in_M hown hK hP 0 rfl rfl 1 (by decide) (hts _ uw_3_132) (fun _ h9 => h9) rfl d_M_follow_31 ?_
  refine lv_if_le (tgt := 38) hx hb d_M_follow_34 (by decide) (fun c4 => ?_) (fun h => absurd h (by decide))
  refine lv_aload_n hx hb d_M_follow_38 rfl (lv_at hl 0 rfl) ?_
  refine va_get (D := (dC, dI)) (ci := 8) (v := .ref p20) (C := "UpcastStreamsModel") (T := F_M) (N := 29) hx hb hts in_M hown hK hP 0 rfl rfl 25 (by decide) (hts _ uw_3_156) (fun _ h9 => h9) rfl d_M_follow_39 ?_
  refine lv_iload_n hx hb d_M_follow_42 rfl (lv_at hl 1 rfl) ?_
  refine lv_iload_n hx hb d_M_follow_43 rfl (lv_at hl 2 rfl) ?_
  refine lv_sipush (v := (255 : Int32)) hx hb d_M_follow_44 (by decide) ?_
  refine lv_iand hx hb d_M_follow_47 ?_
  refine us_iast (j := j) hx hb hK hP hD hS 3 0 rfl rfl (vp_in_nI (by omega) (by omega)) (nI_clamp (by omega)) d_M_follow_48 (fun H locs hP hD hS => ?_)
  have hP : va_P (dC, dI) vwCl [(mm, .inr (8, [.int mp, .int (0 : Int32), .int (nI n), .ref p1, .ref p2, .ref p3, .ref p4, .ref p5, .int (nI un), .ref p6, .ref p7, .ref p8, .int cm, .ref p9, .ref p10, .ref p11, .int ope, .ref p12, .ref p13, .ref p14, .ref p15, .ref p16, .ref p17, .ref p18, .ref p19, .ref p20, .ref p21, .int (nI he), .ref p22])), (p18, .inl (cI, 4, .inl RC)), (p19, .inl (cI, 4, .inl RM)), (p20, .inl (cI, 4, .inl (upd RS j (a &&& (255 : Int32))))), (p21, .inl (cI, 4, .inl RT))] H := hP
  have hD : va_D zA [(mm, .inr (8, [.int mp, .int (0 : Int32), .int (nI n), .ref p1, .ref p2, .ref p3, .ref p4, .ref p5, .int (nI un), .ref p6, .ref p7, .ref p8, .int cm, .ref p9, .ref p10, .ref p11, .int ope, .ref p12, .ref p13, .ref p14, .ref p15, .ref p16, .ref p17, .ref p18, .ref p19, .ref p20, .ref p21, .int (nI he), .ref p22])), (p18, .inl (cI, 4, .inl RC)), (p19, .inl (cI, 4, .inl RM)), (p20, .inl (cI, 4, .inl (upd RS j (a &&& (255 : Int32))))), (p21, .inl (cI, 4, .inl RT))] := hD
  refine lv_aload_n hx hb d_M_follow_49 rfl (lv_at hl 0 rfl) ?_
  refine va_get (D := (dC, dI)) (ci := 8) (v := .ref p21) (C := "UpcastStreamsModel") (T := F_M) (N := 29) hx hb hts in_M hown hK hP 0 rfl rfl 26 (by decide) (hts _ uw_3_157) (fun _ h9 => h9) rfl d_M_follow_50 ?_
  refine lv_iload_n hx hb d_M_follow_53 rfl (lv_at hl 1 rfl) ?_
  refine lv_iload_n hx hb d_M_follow_54 rfl (lv_at hl 3 rfl) ?_
  refine lv_bipush (v := (63 : Int32)) hx hb d_M_follow_55 (by decide) ?_
  refine lv_iand hx hb d_M_follow_57 ?_
  refine us_iast (j := j) hx hb hK hP hD hS 4 0 rfl rfl (vp_in_nI (by omega) (by omega)) (nI_clamp (by omega)) d_M_follow_58 (fun H locs hP hD hS => ?_)
  have hP : va_P (dC, dI) vwCl [(mm, .inr (8, [.int mp, .int (0 : Int32), .int (nI n), .ref p1, .ref p2, .ref p3, .ref p4, .ref p5, .int (nI un), .ref p6, .ref p7, .ref p8, .int cm, .ref p9, .ref p10, .ref p11, .int ope, .ref p12, .ref p13, .ref p14, .ref p15, .ref p16, .ref p17, .ref p18, .ref p19, .ref p20, .ref p21, .int (nI he), .ref p22])), (p18, .inl (cI, 4, .inl RC)), (p19, .inl (cI, 4, .inl RM)), (p20, .inl (cI, 4, .inl (upd RS j (a &&& (255 : Int32))))), (p21, .inl (cI, 4, .inl (upd RT j (b &&& (63 : Int32)))))] H := hP
  have hD : va_D zA [(mm, .inr (8, [.int mp, .int (0 : Int32), .int (nI n), .ref p1, .ref p2, .ref p3, .ref p4, .ref p5, .int (nI un), .ref p6, .ref p7, .ref p8, .int cm, .ref p9, .ref p10, .ref p11, .int ope, .ref p12, .ref p13, .ref p14, .ref p15, .ref p16, .ref p17, .ref p18, .ref p19, .ref p20, .ref p21, .int (nI he), .ref p22])), (p18, .inl (cI, 4, .inl RC)), (p19, .inl (cI, 4, .inl RM)), (p20, .inl (cI, 4, .inl (upd RS j (a &&& (255 : Int32))))), (p21, .inl (cI, 4, .inl (upd RT j (b &&& (63 : Int32)))))] := hD
  refine lv_aload_n hx hb d_M_follow_59 rfl (lv_at hl 0 rfl) ?_
  refine va_get (D := (dC, dI)) (ci := 8) (v := .ref p18) (C := "UpcastStreamsModel") (T := F_M) (N := 29) hx hb hts in_M hown hK hP 0 rfl rfl 23 (by decide) (hts _ uw_3_154) (fun _ h9 => h9) rfl d_M_follow_60 ?_
  refine lv_iload_n hx hb d_M_follow_63 rfl (lv_at hl 1 rfl) ?_
  refine lv_iload hx hb d_M_follow_64 (lv_at hl 4 rfl) ?_
  refine us_iast (j := j) hx hb hK hP hD hS 1 0 rfl rfl (vp_in_nI (by omega) (by omega)) (nI_clamp (by omega)) d_M_follow_66 (fun H locs hP hD hS => ?_)
  have hP : va_P (dC, dI) vwCl [(mm, .inr (8, [.int mp, .int (0 : Int32), .int (nI n), .ref p1, .ref p2, .ref p3, .ref p4, .ref p5, .int (nI un), .ref p6, .ref p7, .ref p8, .int cm, .ref p9, .ref p10, .ref p11, .int ope, .ref p12, .ref p13, .ref p14, .ref p15, .ref p16, .ref p17, .ref p18, .ref p19, .ref p20, .ref p21, .int (nI he), .ref p22])), (p18, .inl (cI, 4, .inl (upd RC j (nI k)))), (p19, .inl (cI, 4, .inl RM)), (p20, .inl (cI, 4, .inl (upd RS j (a &&& (255 : Int32))))), (p21, .inl (cI, 4, .inl (upd RT j (b &&& (63 : Int32)))))] H := hP
  have hD : va_D zA [(mm, .inr (8, [.int mp, .int (0 : Int32), .int (nI n), .ref p1, .ref p2, .ref p3, .ref p4, .ref p5, .int (nI un), .ref p6, .ref p7, .ref p8, .int cm, .ref p9, .ref p10, .ref p11, .int ope, .ref p12, .ref p13, .ref p14, .ref p15, .ref p16, .ref p17, .ref p18, .ref p19, .ref p20, .ref p21, .int (nI he), .ref p22])), (p18, .inl (cI, 4, .inl (upd RC j (nI k)))), (p19, .inl (cI, 4, .inl RM)), (p20, .inl (cI, 4, .inl (upd RS j (a &&& (255 : Int32))))), (p21, .inl (cI, 4, .inl (upd RT j (b &&& (63 : Int32)))))] := hD
  refine lv_aload_n hx hb d_M_follow_67 rfl (lv_at hl 0 rfl) ?_
  refine va_get (D := (dC, dI)) (ci := 8) (v := .ref p19) (C := "UpcastStreamsModel") (T := F_M) (N := 29) hx hb hts in_M hown hK hP 0 rfl rfl 24 (by decide) (hts _ uw_3_155) (fun _ h9 => h9) rfl d_M_follow_68 ?_
  refine lv_iload_n hx hb d_M_follow_71 rfl (lv_at hl 1 rfl) ?_
  refine lv_iload hx hb d_M_follow_72 (lv_at hl 4 rfl) ?_
  refine us_iast (j := j) hx hb hK hP hD hS 2 0 rfl rfl (vp_in_nI (by omega) (by omega)) (nI_clamp (by omega)) d_M_follow_74 (fun H locs hP hD hS => ?_)
  have hP : va_P (dC, dI) vwCl [(mm, .inr (8, [.int mp, .int (0 : Int32), .int (nI n), .ref p1, .ref p2, .ref p3, .ref p4, .ref p5, .int (nI un), .ref p6, .ref p7, .ref p8, .int cm, .ref p9, .ref p10, .ref p11, .int ope, .ref p12, .ref p13, .ref p14, .ref p15, .ref p16, .ref p17, .ref p18, .ref p19, .ref p20, .ref p21, .int (nI he), .ref p22])), (p18, .inl (cI, 4, .inl (upd RC j (nI k)))), (p19, .inl (cI, 4, .inl (upd RM j (nI k)))), (p20, .inl (cI, 4, .inl (upd RS j (a &&& (255 : Int32))))), (p21, .inl (cI, 4, .inl (upd RT j (b &&& (63 : Int32)))))] H := hP
  have hD : va_D zA [(mm, .inr (8, [.int mp, .int (0 : Int32), .int (nI n), .ref p1, .ref p2, .ref p3, .ref p4, .ref p5, .int (nI un), .ref p6, .ref p7, .ref p8, .int cm, .ref p9, .ref p10, .ref p11, .int ope, .ref p12, .ref p13, .ref p14, .ref p15, .ref p16, .ref p17, .ref p18, .ref p19, .ref p20, .ref p21, .int (nI he), .ref p22])), (p18, .inl (cI, 4, .inl (upd RC j (nI k)))), (p19, .inl (cI, 4, .inl (upd RM j (nI k)))), (p20, .inl (cI, 4, .inl (upd RS j (a &&& (255 : Int32))))), (p21, .inl (cI, 4, .inl (upd RT j (b &&& (63 : Int32)))))] := hD
  exact us_vret hQ (by decide) (by decide) hx hb hr hlk hK hS () rfl (by simp) hP hD d_M_follow_75

set_option maxHeartbeats 4000000 in
set_option maxRecDepth 100000 in
theorem m_follow_no (zl : Launch) (dC : Nat → ClassId) (dI : Nat → Nat → Nat) (cI cL cS cR : ClassId) (mm : Nat) (p1 : Nat) (p2 : Nat) (p3 : Nat) (p4 : Nat) (p5 : Nat) (p6 : Nat) (p7 : Nat) (p8 : Nat) (p9 : Nat) (p10 : Nat) (p11 : Nat) (p12 : Nat) (p13 : Nat) (p14 : Nat) (p15 : Nat) (p16 : Nat) (p17 : Nat) (p18 : Nat) (p19 : Nat) (p20 : Nat) (p21 : Nat) (p22 : Nat) (mp : Int32) (co : Int32) (cm : Int32) (ope : Int32) (n : Nat) (un : Nat) (he : Nat) (y : Int32) (a : Int32) (b : Int32) (k : Int32) (hbad : ¬ ((0 ≤ y ∧ y < 4) ∧ 0 ≤ k ∧ k ≤ nI n)) : us_Met (S := Unit) zl y_M_follow w_M_follow ({ frames := 1, cells := 0, slots := 0, locals := 20 }) (dC, dI) vwCl (us_ty cI cL cS cR) [.ref mm, .int y, .int a, .int b, .int k] [(mm, .inr (8, [.int mp, .int co, .int (nI n), .ref p1, .ref p2, .ref p3, .ref p4, .ref p5, .int (nI un), .ref p6, .ref p7, .ref p8, .int cm, .ref p9, .ref p10, .ref p11, .int ope, .ref p12, .ref p13, .ref p14, .ref p15, .ref p16, .ref p17, .ref p18, .ref p19, .ref p20, .ref p21, .int (nI he), .ref p22]))] (fun _ => none) (fun u => True) (fun u => [(mm, .inr (8, [.int mp, .int (1 : Int32), .int (nI n), .ref p1, .ref p2, .ref p3, .ref p4, .ref p5, .int (nI un), .ref p6, .ref p7, .ref p8, .int cm, .ref p9, .ref p10, .ref p11, .int ope, .ref p12, .ref p13, .ref p14, .ref p15, .ref p16, .ref p17, .ref p18, .ref p19, .ref p20, .ref p21, .int (nI he), .ref p22]))]) := by
  refine us_ofW (cc := b_M_follow) (maxL := 5) (ret := none) (by decide) (Nat.le_of_ble_eq_true rfl) ?_
  intro zp ze zs zm args below meth zc zA ls zQ hQ hx hb hr hml hts hown hlk hin hl hK hP hD hS hA
  have hown : zs.vm.findClass "UpcastStreamsModel" = some zm.cls := hown
  have hl : lv_has ls 5 [(0, .ref mm), (1, .int y), (2, .int a), (3, .int b), (4, .int k)] := hl
  obtain ⟨H, hH⟩ : ∃ H, H = zs.heap := ⟨_, rfl⟩
  rw [← hH] at hP ⊢
  have hS : va_S zA zs.heap H [] := hH ▸ hS
  generalize ([] : List Loc) = locs at hS ⊢
  refine lv_aload_n hx hb d_M_follow_0 rfl (lv_at hl 0 rfl) ?_
  refine lv_iload_n hx hb d_M_follow_1 rfl (lv_at hl 1 rfl) ?_
  refine us_callRS (As := [.int y]) (rest := [.ref mm]) ⟨hx, hb, hml, hown, hts⟩ (m_isReader zl dC dI cI cL cS cR y ) ⟨callB_of 1 hts (us_gC k_M_isReader) rfl rfl rfl (hts _ uw_1_10) (hts _ uw_4_85) h_M_isReader.2 ⟨by decide, by decide⟩, (hts _ uw_4_86)⟩ hK hP hS hA [] rfl rfl hl.1 rfl (Nat.le_of_ble_eq_true rfl) d_M_follow_2 ⟨by decide, by decide⟩ (fun u H locs w2 hP hS => ?_)
  obtain ⟨r2, rfl⟩ : ∃ z, z = u := ⟨_, rfl⟩
  try dsimp only at w2
  refine W.eq (g2 := F0 zm 5 ls [.int r2, .ref mm]) rfl ?_
  refine lv_if_eq (tgt := 22) hx hb d_M_follow_5 (by decide) (fun c5 => ?_) (fun c5 => ?_)
  · refine lv_iconst (v := (1 : Int32)) hx hb d_M_follow_22 (by decide) ?_
    refine lv_goto (tgt := 27) hx hb d_M_follow_23 (by decide) ?_
    refine va_put (D := (dC, dI)) (ci := 8) (v := .int (1 : Int32)) (ty := .int) (C := "UpcastStreamsModel") (T := F_M) (N := 29) hx hb hts in_M t_M t_M_ok n_M hown hK hP hD hS 0 rfl rfl 1 (by decide) (hts _ uw_3_132) (fun _ h9 => h9) rfl (by decide +kernel) rfl rfl (Nat.le_of_ble_eq_true rfl) d_M_follow_27 (fun H locs hP hD hS => ?_)
    have hP : va_P (dC, dI) vwCl [(mm, .inr (8, [.int mp, .int (1 : Int32), .int (nI n), .ref p1, .ref p2, .ref p3, .ref p4, .ref p5, .int (nI un), .ref p6, .ref p7, .ref p8, .int cm, .ref p9, .ref p10, .ref p11, .int ope, .ref p12, .ref p13, .ref p14, .ref p15, .ref p16, .ref p17, .ref p18, .ref p19, .ref p20, .ref p21, .int (nI he), .ref p22]))] H := hP
    have hD : va_D zA [(mm, .inr (8, [.int mp, .int (1 : Int32), .int (nI n), .ref p1, .ref p2, .ref p3, .ref p4, .ref p5, .int (nI un), .ref p6, .ref p7, .ref p8, .int cm, .ref p9, .ref p10, .ref p11, .int ope, .ref p12, .ref p13, .ref p14, .ref p15, .ref p16, .ref p17, .ref p18, .ref p19, .ref p20, .ref p21, .int (nI he), .ref p22]))] := hD
    refine lv_aload_n hx hb d_M_follow_30 rfl (lv_at hl 0 rfl) ?_
    refine va_get (D := (dC, dI)) (ci := 8) (v := .int (1 : Int32)) (C := "UpcastStreamsModel") (T := F_M) (N := 29) hx hb hts in_M hown hK hP 0 rfl rfl 1 (by decide) (hts _ uw_3_132) (fun _ h9 => h9) rfl d_M_follow_31 ?_
    refine lv_if_le (tgt := 38) hx hb d_M_follow_34 (by decide) (fun h => absurd h (by decide)) (fun c2 => ?_)
    exact us_vret hQ (by decide) (by decide) hx hb hr hlk hK hS () rfl (by simp) hP hD d_M_follow_37
  · refine lv_iload hx hb d_M_follow_8 (lv_at hl 4 rfl) ?_
    refine lv_if_lt (tgt := 22) hx hb d_M_follow_10 (by decide) (fun c10 => ?_) (fun c10 => ?_)
    · refine lv_iconst (v := (1 : Int32)) hx hb d_M_follow_22 (by decide) ?_
      refine lv_goto (tgt := 27) hx hb d_M_follow_23 (by decide) ?_
      refine va_put (D := (dC, dI)) (ci := 8) (v := .int (1 : Int32)) (ty := .int) (C := "UpcastStreamsModel") (T := F_M) (N := 29) hx hb hts in_M t_M t_M_ok n_M hown hK hP hD hS 0 rfl rfl 1 (by decide) (hts _ uw_3_132) (fun _ h9 => h9) rfl (by decide +kernel) rfl rfl (Nat.le_of_ble_eq_true rfl) d_M_follow_27 (fun H locs hP hD hS => ?_)
      have hP : va_P (dC, dI) vwCl [(mm, .inr (8, [.int mp, .int (1 : Int32), .int (nI n), .ref p1, .ref p2, .ref p3, .ref p4, .ref p5, .int (nI un), .ref p6, .ref p7, .ref p8, .int cm, .ref p9, .ref p10, .ref p11, .int ope, .ref p12, .ref p13, .ref p14, .ref p15, .ref p16, .ref p17, .ref p18, .ref p19, .ref p20, .ref p21, .int (nI he), .ref p22]))] H := hP
      have hD : va_D zA [(mm, .inr (8, [.int mp, .int (1 : Int32), .int (nI n), .ref p1, .ref p2, .ref p3, .ref p4, .ref p5, .int (nI un), .ref p6, .ref p7, .ref p8, .int cm, .ref p9, .ref p10, .ref p11, .int ope, .ref p12, .ref p13, .ref p14, .ref p15, .ref p16, .ref p17, .ref p18, .ref p19, .ref p20, .ref p21, .int (nI he), .ref p22]))] := hD
      refine lv_aload_n hx hb d_M_follow_30 rfl (lv_at hl 0 rfl) ?_
      refine va_get (D := (dC, dI)) (ci := 8) (v := .int (1 : Int32)) (C := "UpcastStreamsModel") (T := F_M) (N := 29) hx hb hts in_M hown hK hP 0 rfl rfl 1 (by decide) (hts _ uw_3_132) (fun _ h9 => h9) rfl d_M_follow_31 ?_
      refine lv_if_le (tgt := 38) hx hb d_M_follow_34 (by decide) (fun h => absurd h (by decide)) (fun c4 => ?_)
      exact us_vret hQ (by decide) (by decide) hx hb hr hlk hK hS () rfl (by simp) hP hD d_M_follow_37
    · refine lv_iload hx hb d_M_follow_13 (lv_at hl 4 rfl) ?_
      refine lv_aload_n hx hb d_M_follow_15 rfl (lv_at hl 0 rfl) ?_
      refine va_get (D := (dC, dI)) (ci := 8) (v := .int (nI n)) (C := "UpcastStreamsModel") (T := F_M) (N := 29) hx hb hts in_M hown hK hP 0 rfl rfl 2 (by decide) (hts _ uw_3_133) (fun _ h9 => h9) rfl d_M_follow_16 ?_
      refine lv_icmp_le (tgt := 26) hx hb d_M_follow_19 (by decide) (fun h => absurd ⟨us_d1 w2 c5, Int32.not_lt.mp c10, h⟩ hbad) (fun c5 => ?_)
      refine lv_iconst (v := (1 : Int32)) hx hb d_M_follow_22 (by decide) ?_
      refine lv_goto (tgt := 27) hx hb d_M_follow_23 (by decide) ?_
      refine va_put (D := (dC, dI)) (ci := 8) (v := .int (1 : Int32)) (ty := .int) (C := "UpcastStreamsModel") (T := F_M) (N := 29) hx hb hts in_M t_M t_M_ok n_M hown hK hP hD hS 0 rfl rfl 1 (by decide) (hts _ uw_3_132) (fun _ h9 => h9) rfl (by decide +kernel) rfl rfl (Nat.le_of_ble_eq_true rfl) d_M_follow_27 (fun H locs hP hD hS => ?_)
      have hP : va_P (dC, dI) vwCl [(mm, .inr (8, [.int mp, .int (1 : Int32), .int (nI n), .ref p1, .ref p2, .ref p3, .ref p4, .ref p5, .int (nI un), .ref p6, .ref p7, .ref p8, .int cm, .ref p9, .ref p10, .ref p11, .int ope, .ref p12, .ref p13, .ref p14, .ref p15, .ref p16, .ref p17, .ref p18, .ref p19, .ref p20, .ref p21, .int (nI he), .ref p22]))] H := hP
      have hD : va_D zA [(mm, .inr (8, [.int mp, .int (1 : Int32), .int (nI n), .ref p1, .ref p2, .ref p3, .ref p4, .ref p5, .int (nI un), .ref p6, .ref p7, .ref p8, .int cm, .ref p9, .ref p10, .ref p11, .int ope, .ref p12, .ref p13, .ref p14, .ref p15, .ref p16, .ref p17, .ref p18, .ref p19, .ref p20, .ref p21, .int (nI he), .ref p22]))] := hD
      refine lv_aload_n hx hb d_M_follow_30 rfl (lv_at hl 0 rfl) ?_
      refine va_get (D := (dC, dI)) (ci := 8) (v := .int (1 : Int32)) (C := "UpcastStreamsModel") (T := F_M) (N := 29) hx hb hts in_M hown hK hP 0 rfl rfl 1 (by decide) (hts _ uw_3_132) (fun _ h9 => h9) rfl d_M_follow_31 ?_
      refine lv_if_le (tgt := 38) hx hb d_M_follow_34 (by decide) (fun h => absurd h (by decide)) (fun c6 => ?_)
      exact us_vret hQ (by decide) (by decide) hx hb hr hlk hK hS () rfl (by simp) hP hD d_M_follow_37

set_option maxHeartbeats 4000000 in
set_option maxRecDepth 100000 in
theorem m_done (zl : Launch) (dC : Nat → ClassId) (dI : Nat → Nat → Nat) (cI cL cS cR : ClassId) (mm : Nat) (p1 : Nat) (p2 : Nat) (p3 : Nat) (p4 : Nat) (p5 : Nat) (p6 : Nat) (p7 : Nat) (p8 : Nat) (p9 : Nat) (p10 : Nat) (p11 : Nat) (p12 : Nat) (p13 : Nat) (p14 : Nat) (p15 : Nat) (p16 : Nat) (p17 : Nat) (p18 : Nat) (p19 : Nat) (p20 : Nat) (p21 : Nat) (p22 : Nat) (mp : Int32) (co : Int32) (cm : Int32) (ope : Int32) (n : Nat) (un : Nat) (he : Nat) (RC : Nat → Int32) (RM : Nat → Int32) (j : Nat) (hj : j < 4) : us_Met (S := Unit) zl y_M_done w_M_done ({ frames := 1, cells := 0, slots := 0, locals := 20 }) (dC, dI) vwCl (us_ty cI cL cS cR) [.ref mm, .int (nI j)] [(mm, .inr (8, [.int mp, .int co, .int (nI n), .ref p1, .ref p2, .ref p3, .ref p4, .ref p5, .int (nI un), .ref p6, .ref p7, .ref p8, .int cm, .ref p9, .ref p10, .ref p11, .int ope, .ref p12, .ref p13, .ref p14, .ref p15, .ref p16, .ref p17, .ref p18, .ref p19, .ref p20, .ref p21, .int (nI he), .ref p22])), (p18, .inl (cI, 4, .inl RC)), (p19, .inl (cI, 4, .inl RM))] (fun u => some (.int (RM j - RC j))) (fun u => True) (fun u => [(mm, .inr (8, [.int mp, .int (0 : Int32), .int (nI n), .ref p1, .ref p2, .ref p3, .ref p4, .ref p5, .int (nI un), .ref p6, .ref p7, .ref p8, .int cm, .ref p9, .ref p10, .ref p11, .int ope, .ref p12, .ref p13, .ref p14, .ref p15, .ref p16, .ref p17, .ref p18, .ref p19, .ref p20, .ref p21, .int (nI he), .ref p22])), (p18, .inl (cI, 4, .inl (upd RC j (RM j)))), (p19, .inl (cI, 4, .inl RM))]) := by
  refine us_ofW (cc := b_M_done) (maxL := 3) (ret := (some .int)) (by decide) (Nat.le_of_ble_eq_true rfl) ?_
  intro zp ze zs zm args below meth zc zA ls zQ hQ hx hb hr hml hts hown hlk hin hl hK hP hD hS hA
  have hown : zs.vm.findClass "UpcastStreamsModel" = some zm.cls := hown
  have hl : lv_has ls 3 [(0, .ref mm), (1, .int (nI j))] := hl
  obtain ⟨H, hH⟩ : ∃ H, H = zs.heap := ⟨_, rfl⟩
  rw [← hH] at hP ⊢
  have hS : va_S zA zs.heap H [] := hH ▸ hS
  generalize ([] : List Loc) = locs at hS ⊢
  refine lv_aload_n hx hb d_M_done_0 rfl (lv_at hl 0 rfl) ?_
  refine lv_iload_n hx hb d_M_done_1 rfl (lv_at hl 1 rfl) ?_
  refine us_callRS (As := [.int (nI j)]) (rest := [.ref mm]) ⟨hx, hb, hml, hown, hts⟩ (m_isReader zl dC dI cI cL cS cR (nI j) ) ⟨callB_of 1 hts (us_gC k_M_isReader) rfl rfl rfl (hts _ uw_1_10) (hts _ uw_4_85) h_M_isReader.2 ⟨by decide, by decide⟩, (hts _ uw_4_86)⟩ hK hP hS hA [] rfl rfl hl.1 rfl (Nat.le_of_ble_eq_true rfl) d_M_done_2 ⟨by decide, by decide⟩ (fun u H locs w2 hP hS => ?_)
  obtain ⟨r2, rfl⟩ : ∃ z, z = u := ⟨_, rfl⟩
  try dsimp only at w2
  refine W.eq (g2 := F0 zm 5 ls [.int r2, .ref mm]) rfl ?_
  refine lv_if_eq (tgt := 12) hx hb d_M_done_5 (by decide) (fun h => absurd ⟨nI_pos' (by omega), nI_lt (b := 4) hj (by omega)⟩ (us_d0 w2 h)) (fun c1 => ?_)
  refine lv_iconst (v := (0 : Int32)) hx hb d_M_done_8 (by decide) ?_
  refine lv_goto (tgt := 13) hx hb d_M_done_9 (by decide) ?_
  refine va_put (D := (dC, dI)) (ci := 8) (v := .int (0 : Int32)) (ty := .int) (C := "UpcastStreamsModel") (T := F_M) (N := 29) hx hb hts in_M t_M t_M_ok n_M hown hK hP hD hS 0 rfl rfl 1 (by decide) (hts _ uw_3_132) (fun _ h9 => h9) rfl (by decide +kernel) rfl rfl (Nat.le_of_ble_eq_true rfl) d_M_done_13 (fun H locs hP hD hS => ?_)
  have hP : va_P (dC, dI) vwCl [(mm, .inr (8, [.int mp, .int (0 : Int32), .int (nI n), .ref p1, .ref p2, .ref p3, .ref p4, .ref p5, .int (nI un), .ref p6, .ref p7, .ref p8, .int cm, .ref p9, .ref p10, .ref p11, .int ope, .ref p12, .ref p13, .ref p14, .ref p15, .ref p16, .ref p17, .ref p18, .ref p19, .ref p20, .ref p21, .int (nI he), .ref p22])), (p18, .inl (cI, 4, .inl RC)), (p19, .inl (cI, 4, .inl RM))] H := hP
  have hD : va_D zA [(mm, .inr (8, [.int mp, .int (0 : Int32), .int (nI n), .ref p1, .ref p2, .ref p3, .ref p4, .ref p5, .int (nI un), .ref p6, .ref p7, .ref p8, .int cm, .ref p9, .ref p10, .ref p11, .int ope, .ref p12, .ref p13, .ref p14, .ref p15, .ref p16, .ref p17, .ref p18, .ref p19, .ref p20, .ref p21, .int (nI he), .ref p22])), (p18, .inl (cI, 4, .inl RC)), (p19, .inl (cI, 4, .inl RM))] := hD
  refine lv_aload_n hx hb d_M_done_16 rfl (lv_at hl 0 rfl) ?_
  refine va_get (D := (dC, dI)) (ci := 8) (v := .int (0 : Int32)) (C := "UpcastStreamsModel") (T := F_M) (N := 29) hx hb hts in_M hown hK hP 0 rfl rfl 1 (by decide) (hts _ uw_3_132) (fun _ h9 => h9) rfl d_M_done_17 ?_
  refine lv_if_le (tgt := 25) hx hb d_M_done_20 (by decide) (fun c2 => ?_) (fun h => absurd h (by decide))
  refine lv_aload_n hx hb d_M_done_25 rfl (lv_at hl 0 rfl) ?_
  refine va_get (D := (dC, dI)) (ci := 8) (v := .ref p19) (C := "UpcastStreamsModel") (T := F_M) (N := 29) hx hb hts in_M hown hK hP 0 rfl rfl 24 (by decide) (hts _ uw_3_155) (fun _ h9 => h9) rfl d_M_done_26 ?_
  refine lv_iload_n hx hb d_M_done_29 rfl (lv_at hl 1 rfl) ?_
  refine us_iald (j := j) hx hb hK hP 2 0 rfl rfl (vp_in_nI (by omega) (by omega)) (nI_clamp (by omega)) d_M_done_30 ?_
  refine lv_aload_n hx hb d_M_done_31 rfl (lv_at hl 0 rfl) ?_
  refine va_get (D := (dC, dI)) (ci := 8) (v := .ref p18) (C := "UpcastStreamsModel") (T := F_M) (N := 29) hx hb hts in_M hown hK hP 0 rfl rfl 23 (by decide) (hts _ uw_3_154) (fun _ h9 => h9) rfl d_M_done_32 ?_
  refine lv_iload_n hx hb d_M_done_35 rfl (lv_at hl 1 rfl) ?_
  refine us_iald (j := j) hx hb hK hP 1 0 rfl rfl (vp_in_nI (by omega) (by omega)) (nI_clamp (by omega)) d_M_done_36 ?_
  refine lv_isub hx hb d_M_done_37 ?_
  refine lv_istore_n (lv' := [(2, .int ((RM j) - (RC j))), (0, .ref mm), (1, .int (nI j))]) hx hb d_M_done_38 rfl hl (by decide) rfl (fun ls hl => ?_)
  refine lv_aload_n hx hb d_M_done_39 rfl (lv_at hl 1 rfl) ?_
  refine va_get (D := (dC, dI)) (ci := 8) (v := .ref p18) (C := "UpcastStreamsModel") (T := F_M) (N := 29) hx hb hts in_M hown hK hP 0 rfl rfl 23 (by decide) (hts _ uw_3_154) (fun _ h9 => h9) rfl d_M_done_40 ?_
  refine lv_iload_n hx hb d_M_done_43 rfl (lv_at hl 2 rfl) ?_
  refine lv_aload_n hx hb d_M_done_44 rfl (lv_at hl 1 rfl) ?_
  refine va_get (D := (dC, dI)) (ci := 8) (v := .ref p19) (C := "UpcastStreamsModel") (T := F_M) (N := 29) hx hb hts in_M hown hK hP 0 rfl rfl 24 (by decide) (hts _ uw_3_155) (fun _ h9 => h9) rfl d_M_done_45 ?_
  refine lv_iload_n hx hb d_M_done_48 rfl (lv_at hl 2 rfl) ?_
  refine us_iald (j := j) hx hb hK hP 2 0 rfl rfl (vp_in_nI (by omega) (by omega)) (nI_clamp (by omega)) d_M_done_49 ?_
  refine us_iast (j := j) hx hb hK hP hD hS 1 0 rfl rfl (vp_in_nI (by omega) (by omega)) (nI_clamp (by omega)) d_M_done_50 (fun H locs hP hD hS => ?_)
  have hP : va_P (dC, dI) vwCl [(mm, .inr (8, [.int mp, .int (0 : Int32), .int (nI n), .ref p1, .ref p2, .ref p3, .ref p4, .ref p5, .int (nI un), .ref p6, .ref p7, .ref p8, .int cm, .ref p9, .ref p10, .ref p11, .int ope, .ref p12, .ref p13, .ref p14, .ref p15, .ref p16, .ref p17, .ref p18, .ref p19, .ref p20, .ref p21, .int (nI he), .ref p22])), (p18, .inl (cI, 4, .inl (upd RC j (RM j)))), (p19, .inl (cI, 4, .inl RM))] H := hP
  have hD : va_D zA [(mm, .inr (8, [.int mp, .int (0 : Int32), .int (nI n), .ref p1, .ref p2, .ref p3, .ref p4, .ref p5, .int (nI un), .ref p6, .ref p7, .ref p8, .int cm, .ref p9, .ref p10, .ref p11, .int ope, .ref p12, .ref p13, .ref p14, .ref p15, .ref p16, .ref p17, .ref p18, .ref p19, .ref p20, .ref p21, .int (nI he), .ref p22])), (p18, .inl (cI, 4, .inl (upd RC j (RM j)))), (p19, .inl (cI, 4, .inl RM))] := hD
  refine lv_iload_n hx hb d_M_done_51 rfl (lv_at hl 0 rfl) ?_
  exact us_iret hQ (by decide) (by decide) hx hb hr hlk hK hS () rfl (by simp) hP hD d_M_done_52

set_option maxHeartbeats 4000000 in
set_option maxRecDepth 100000 in
theorem m_done_no (zl : Launch) (dC : Nat → ClassId) (dI : Nat → Nat → Nat) (cI cL cS cR : ClassId) (mm : Nat) (p1 : Nat) (p2 : Nat) (p3 : Nat) (p4 : Nat) (p5 : Nat) (p6 : Nat) (p7 : Nat) (p8 : Nat) (p9 : Nat) (p10 : Nat) (p11 : Nat) (p12 : Nat) (p13 : Nat) (p14 : Nat) (p15 : Nat) (p16 : Nat) (p17 : Nat) (p18 : Nat) (p19 : Nat) (p20 : Nat) (p21 : Nat) (p22 : Nat) (mp : Int32) (co : Int32) (cm : Int32) (ope : Int32) (n : Nat) (un : Nat) (he : Nat) (y : Int32) (hbad : ¬ (0 ≤ y ∧ y < 4)) : us_Met (S := Unit) zl y_M_done w_M_done ({ frames := 1, cells := 0, slots := 0, locals := 20 }) (dC, dI) vwCl (us_ty cI cL cS cR) [.ref mm, .int y] [(mm, .inr (8, [.int mp, .int co, .int (nI n), .ref p1, .ref p2, .ref p3, .ref p4, .ref p5, .int (nI un), .ref p6, .ref p7, .ref p8, .int cm, .ref p9, .ref p10, .ref p11, .int ope, .ref p12, .ref p13, .ref p14, .ref p15, .ref p16, .ref p17, .ref p18, .ref p19, .ref p20, .ref p21, .int (nI he), .ref p22]))] (fun u => some (.int (0 : Int32))) (fun u => True) (fun u => [(mm, .inr (8, [.int mp, .int (1 : Int32), .int (nI n), .ref p1, .ref p2, .ref p3, .ref p4, .ref p5, .int (nI un), .ref p6, .ref p7, .ref p8, .int cm, .ref p9, .ref p10, .ref p11, .int ope, .ref p12, .ref p13, .ref p14, .ref p15, .ref p16, .ref p17, .ref p18, .ref p19, .ref p20, .ref p21, .int (nI he), .ref p22]))]) := by
  refine us_ofW (cc := b_M_done) (maxL := 3) (ret := (some .int)) (by decide) (Nat.le_of_ble_eq_true rfl) ?_
  intro zp ze zs zm args below meth zc zA ls zQ hQ hx hb hr hml hts hown hlk hin hl hK hP hD hS hA
  have hown : zs.vm.findClass "UpcastStreamsModel" = some zm.cls := hown
  have hl : lv_has ls 3 [(0, .ref mm), (1, .int y)] := hl
  obtain ⟨H, hH⟩ : ∃ H, H = zs.heap := ⟨_, rfl⟩
  rw [← hH] at hP ⊢
  have hS : va_S zA zs.heap H [] := hH ▸ hS
  generalize ([] : List Loc) = locs at hS ⊢
  refine lv_aload_n hx hb d_M_done_0 rfl (lv_at hl 0 rfl) ?_
  refine lv_iload_n hx hb d_M_done_1 rfl (lv_at hl 1 rfl) ?_
  refine us_callRS (As := [.int y]) (rest := [.ref mm]) ⟨hx, hb, hml, hown, hts⟩ (m_isReader zl dC dI cI cL cS cR y ) ⟨callB_of 1 hts (us_gC k_M_isReader) rfl rfl rfl (hts _ uw_1_10) (hts _ uw_4_85) h_M_isReader.2 ⟨by decide, by decide⟩, (hts _ uw_4_86)⟩ hK hP hS hA [] rfl rfl hl.1 rfl (Nat.le_of_ble_eq_true rfl) d_M_done_2 ⟨by decide, by decide⟩ (fun u H locs w2 hP hS => ?_)
  obtain ⟨r2, rfl⟩ : ∃ z, z = u := ⟨_, rfl⟩
  try dsimp only at w2
  refine W.eq (g2 := F0 zm 5 ls [.int r2, .ref mm]) rfl ?_
  refine lv_if_eq (tgt := 12) hx hb d_M_done_5 (by decide) (fun c1 => ?_) (fun h => absurd (us_d1 w2 h) hbad)
  refine lv_iconst (v := (1 : Int32)) hx hb d_M_done_12 (by decide) ?_
  refine va_put (D := (dC, dI)) (ci := 8) (v := .int (1 : Int32)) (ty := .int) (C := "UpcastStreamsModel") (T := F_M) (N := 29) hx hb hts in_M t_M t_M_ok n_M hown hK hP hD hS 0 rfl rfl 1 (by decide) (hts _ uw_3_132) (fun _ h9 => h9) rfl (by decide +kernel) rfl rfl (Nat.le_of_ble_eq_true rfl) d_M_done_13 (fun H locs hP hD hS => ?_)
  have hP : va_P (dC, dI) vwCl [(mm, .inr (8, [.int mp, .int (1 : Int32), .int (nI n), .ref p1, .ref p2, .ref p3, .ref p4, .ref p5, .int (nI un), .ref p6, .ref p7, .ref p8, .int cm, .ref p9, .ref p10, .ref p11, .int ope, .ref p12, .ref p13, .ref p14, .ref p15, .ref p16, .ref p17, .ref p18, .ref p19, .ref p20, .ref p21, .int (nI he), .ref p22]))] H := hP
  have hD : va_D zA [(mm, .inr (8, [.int mp, .int (1 : Int32), .int (nI n), .ref p1, .ref p2, .ref p3, .ref p4, .ref p5, .int (nI un), .ref p6, .ref p7, .ref p8, .int cm, .ref p9, .ref p10, .ref p11, .int ope, .ref p12, .ref p13, .ref p14, .ref p15, .ref p16, .ref p17, .ref p18, .ref p19, .ref p20, .ref p21, .int (nI he), .ref p22]))] := hD
  refine lv_aload_n hx hb d_M_done_16 rfl (lv_at hl 0 rfl) ?_
  refine va_get (D := (dC, dI)) (ci := 8) (v := .int (1 : Int32)) (C := "UpcastStreamsModel") (T := F_M) (N := 29) hx hb hts in_M hown hK hP 0 rfl rfl 1 (by decide) (hts _ uw_3_132) (fun _ h9 => h9) rfl d_M_done_17 ?_
  refine lv_if_le (tgt := 25) hx hb d_M_done_20 (by decide) (fun h => absurd h (by decide)) (fun c2 => ?_)
  refine lv_iconst (v := (0 : Int32)) hx hb d_M_done_23 (by decide) ?_
  exact us_iret hQ (by decide) (by decide) hx hb hr hlk hK hS () rfl (by simp) hP hD d_M_done_24

set_option maxHeartbeats 4000000 in
set_option maxRecDepth 100000 in
theorem m_cursor (zl : Launch) (dC : Nat → ClassId) (dI : Nat → Nat → Nat) (cI cL cS cR : ClassId) (mm : Nat) (p1 : Nat) (p2 : Nat) (p3 : Nat) (p4 : Nat) (p5 : Nat) (p6 : Nat) (p7 : Nat) (p8 : Nat) (p9 : Nat) (p10 : Nat) (p11 : Nat) (p12 : Nat) (p13 : Nat) (p14 : Nat) (p15 : Nat) (p16 : Nat) (p17 : Nat) (p18 : Nat) (p19 : Nat) (p20 : Nat) (p21 : Nat) (p22 : Nat) (mp : Int32) (co : Int32) (cm : Int32) (ope : Int32) (n : Nat) (un : Nat) (he : Nat) (RC : Nat → Int32) (j : Nat) (hj : j < 4) : us_Met (S := Unit) zl y_M_cursor w_M_cursor ({ frames := 1, cells := 0, slots := 0, locals := 20 }) (dC, dI) vwCl (us_ty cI cL cS cR) [.ref mm, .int (nI j)] [(mm, .inr (8, [.int mp, .int co, .int (nI n), .ref p1, .ref p2, .ref p3, .ref p4, .ref p5, .int (nI un), .ref p6, .ref p7, .ref p8, .int cm, .ref p9, .ref p10, .ref p11, .int ope, .ref p12, .ref p13, .ref p14, .ref p15, .ref p16, .ref p17, .ref p18, .ref p19, .ref p20, .ref p21, .int (nI he), .ref p22])), (p18, .inl (cI, 4, .inl RC))] (fun u => some (.int (RC j))) (fun u => True) (fun u => [(mm, .inr (8, [.int mp, .int (0 : Int32), .int (nI n), .ref p1, .ref p2, .ref p3, .ref p4, .ref p5, .int (nI un), .ref p6, .ref p7, .ref p8, .int cm, .ref p9, .ref p10, .ref p11, .int ope, .ref p12, .ref p13, .ref p14, .ref p15, .ref p16, .ref p17, .ref p18, .ref p19, .ref p20, .ref p21, .int (nI he), .ref p22])), (p18, .inl (cI, 4, .inl RC))]) := by
  refine us_ofW (cc := b_M_cursor) (maxL := 2) (ret := (some .int)) (by decide) (Nat.le_of_ble_eq_true rfl) ?_
  intro zp ze zs zm args below meth zc zA ls zQ hQ hx hb hr hml hts hown hlk hin hl hK hP hD hS hA
  have hown : zs.vm.findClass "UpcastStreamsModel" = some zm.cls := hown
  have hl : lv_has ls 2 [(0, .ref mm), (1, .int (nI j))] := hl
  obtain ⟨H, hH⟩ : ∃ H, H = zs.heap := ⟨_, rfl⟩
  rw [← hH] at hP ⊢
  have hS : va_S zA zs.heap H [] := hH ▸ hS
  generalize ([] : List Loc) = locs at hS ⊢
  refine lv_aload_n hx hb d_M_cursor_0 rfl (lv_at hl 0 rfl) ?_
  refine lv_iconst (v := (0 : Int32)) hx hb d_M_cursor_1 (by decide) ?_
  refine va_put (D := (dC, dI)) (ci := 8) (v := .int (0 : Int32)) (ty := .int) (C := "UpcastStreamsModel") (T := F_M) (N := 29) hx hb hts in_M t_M t_M_ok n_M hown hK hP hD hS 0 rfl rfl 1 (by decide) (hts _ uw_3_132) (fun _ h9 => h9) rfl (by decide +kernel) rfl rfl (Nat.le_of_ble_eq_true rfl) d_M_cursor_2 (fun H locs hP hD hS => ?_)
  have hP : va_P (dC, dI) vwCl [(mm, .inr (8, [.int mp, .int (0 : Int32), .int (nI n), .ref p1, .ref p2, .ref p3, .ref p4, .ref p5, .int (nI un), .ref p6, .ref p7, .ref p8, .int cm, .ref p9, .ref p10, .ref p11, .int ope, .ref p12, .ref p13, .ref p14, .ref p15, .ref p16, .ref p17, .ref p18, .ref p19, .ref p20, .ref p21, .int (nI he), .ref p22])), (p18, .inl (cI, 4, .inl RC))] H := hP
  have hD : va_D zA [(mm, .inr (8, [.int mp, .int (0 : Int32), .int (nI n), .ref p1, .ref p2, .ref p3, .ref p4, .ref p5, .int (nI un), .ref p6, .ref p7, .ref p8, .int cm, .ref p9, .ref p10, .ref p11, .int ope, .ref p12, .ref p13, .ref p14, .ref p15, .ref p16, .ref p17, .ref p18, .ref p19, .ref p20, .ref p21, .int (nI he), .ref p22])), (p18, .inl (cI, 4, .inl RC))] := hD
  refine lv_iload_n hx hb d_M_cursor_5 rfl (lv_at hl 1 rfl) ?_
  refine us_callRS (As := [.int (nI j)]) (rest := []) ⟨hx, hb, hml, hown, hts⟩ (m_isReader zl dC dI cI cL cS cR (nI j) ) ⟨callB_of 1 hts (us_gC k_M_isReader) rfl rfl rfl (hts _ uw_1_10) (hts _ uw_4_85) h_M_isReader.2 ⟨by decide, by decide⟩, (hts _ uw_4_86)⟩ hK hP hS hA [] rfl rfl hl.1 rfl (Nat.le_of_ble_eq_true rfl) d_M_cursor_6 ⟨by decide, by decide⟩ (fun u H locs w6 hP hS => ?_)
  obtain ⟨r6, rfl⟩ : ∃ z, z = u := ⟨_, rfl⟩
  try dsimp only at w6
  refine W.eq (g2 := F0 zm 9 ls [.int r6]) rfl ?_
  refine lv_if_eq (tgt := 21) hx hb d_M_cursor_9 (by decide) (fun h => absurd ⟨nI_pos' (by omega), nI_lt (b := 4) hj (by omega)⟩ (us_d0 w6 h)) (fun c1 => ?_)
  refine lv_aload_n hx hb d_M_cursor_12 rfl (lv_at hl 0 rfl) ?_
  refine va_get (D := (dC, dI)) (ci := 8) (v := .ref p18) (C := "UpcastStreamsModel") (T := F_M) (N := 29) hx hb hts in_M hown hK hP 0 rfl rfl 23 (by decide) (hts _ uw_3_154) (fun _ h9 => h9) rfl d_M_cursor_13 ?_
  refine lv_iload_n hx hb d_M_cursor_16 rfl (lv_at hl 1 rfl) ?_
  refine us_iald (j := j) hx hb hK hP 1 0 rfl rfl (vp_in_nI (by omega) (by omega)) (nI_clamp (by omega)) d_M_cursor_17 ?_
  refine lv_goto (tgt := 22) hx hb d_M_cursor_18 (by decide) ?_
  exact us_iret hQ (by decide) (by decide) hx hb hr hlk hK hS () rfl (by simp) hP hD d_M_cursor_22

set_option maxHeartbeats 4000000 in
set_option maxRecDepth 100000 in
theorem m_cursor_no (zl : Launch) (dC : Nat → ClassId) (dI : Nat → Nat → Nat) (cI cL cS cR : ClassId) (mm : Nat) (p1 : Nat) (p2 : Nat) (p3 : Nat) (p4 : Nat) (p5 : Nat) (p6 : Nat) (p7 : Nat) (p8 : Nat) (p9 : Nat) (p10 : Nat) (p11 : Nat) (p12 : Nat) (p13 : Nat) (p14 : Nat) (p15 : Nat) (p16 : Nat) (p17 : Nat) (p18 : Nat) (p19 : Nat) (p20 : Nat) (p21 : Nat) (p22 : Nat) (mp : Int32) (co : Int32) (cm : Int32) (ope : Int32) (n : Nat) (un : Nat) (he : Nat) (y : Int32) (hbad : ¬ (0 ≤ y ∧ y < 4)) : us_Met (S := Unit) zl y_M_cursor w_M_cursor ({ frames := 1, cells := 0, slots := 0, locals := 20 }) (dC, dI) vwCl (us_ty cI cL cS cR) [.ref mm, .int y] [(mm, .inr (8, [.int mp, .int co, .int (nI n), .ref p1, .ref p2, .ref p3, .ref p4, .ref p5, .int (nI un), .ref p6, .ref p7, .ref p8, .int cm, .ref p9, .ref p10, .ref p11, .int ope, .ref p12, .ref p13, .ref p14, .ref p15, .ref p16, .ref p17, .ref p18, .ref p19, .ref p20, .ref p21, .int (nI he), .ref p22]))] (fun u => some (.int (-1 : Int32))) (fun u => True) (fun u => [(mm, .inr (8, [.int mp, .int (0 : Int32), .int (nI n), .ref p1, .ref p2, .ref p3, .ref p4, .ref p5, .int (nI un), .ref p6, .ref p7, .ref p8, .int cm, .ref p9, .ref p10, .ref p11, .int ope, .ref p12, .ref p13, .ref p14, .ref p15, .ref p16, .ref p17, .ref p18, .ref p19, .ref p20, .ref p21, .int (nI he), .ref p22]))]) := by
  refine us_ofW (cc := b_M_cursor) (maxL := 2) (ret := (some .int)) (by decide) (Nat.le_of_ble_eq_true rfl) ?_
  intro zp ze zs zm args below meth zc zA ls zQ hQ hx hb hr hml hts hown hlk hin hl hK hP hD hS hA
  have hown : zs.vm.findClass "UpcastStreamsModel" = some zm.cls := hown
  have hl : lv_has ls 2 [(0, .ref mm), (1, .int y)] := hl
  obtain ⟨H, hH⟩ : ∃ H, H = zs.heap := ⟨_, rfl⟩
  rw [← hH] at hP ⊢
  have hS : va_S zA zs.heap H [] := hH ▸ hS
  generalize ([] : List Loc) = locs at hS ⊢
  refine lv_aload_n hx hb d_M_cursor_0 rfl (lv_at hl 0 rfl) ?_
  refine lv_iconst (v := (0 : Int32)) hx hb d_M_cursor_1 (by decide) ?_
  refine va_put (D := (dC, dI)) (ci := 8) (v := .int (0 : Int32)) (ty := .int) (C := "UpcastStreamsModel") (T := F_M) (N := 29) hx hb hts in_M t_M t_M_ok n_M hown hK hP hD hS 0 rfl rfl 1 (by decide) (hts _ uw_3_132) (fun _ h9 => h9) rfl (by decide +kernel) rfl rfl (Nat.le_of_ble_eq_true rfl) d_M_cursor_2 (fun H locs hP hD hS => ?_)
  have hP : va_P (dC, dI) vwCl [(mm, .inr (8, [.int mp, .int (0 : Int32), .int (nI n), .ref p1, .ref p2, .ref p3, .ref p4, .ref p5, .int (nI un), .ref p6, .ref p7, .ref p8, .int cm, .ref p9, .ref p10, .ref p11, .int ope, .ref p12, .ref p13, .ref p14, .ref p15, .ref p16, .ref p17, .ref p18, .ref p19, .ref p20, .ref p21, .int (nI he), .ref p22]))] H := hP
  have hD : va_D zA [(mm, .inr (8, [.int mp, .int (0 : Int32), .int (nI n), .ref p1, .ref p2, .ref p3, .ref p4, .ref p5, .int (nI un), .ref p6, .ref p7, .ref p8, .int cm, .ref p9, .ref p10, .ref p11, .int ope, .ref p12, .ref p13, .ref p14, .ref p15, .ref p16, .ref p17, .ref p18, .ref p19, .ref p20, .ref p21, .int (nI he), .ref p22]))] := hD
  refine lv_iload_n hx hb d_M_cursor_5 rfl (lv_at hl 1 rfl) ?_
  refine us_callRS (As := [.int y]) (rest := []) ⟨hx, hb, hml, hown, hts⟩ (m_isReader zl dC dI cI cL cS cR y ) ⟨callB_of 1 hts (us_gC k_M_isReader) rfl rfl rfl (hts _ uw_1_10) (hts _ uw_4_85) h_M_isReader.2 ⟨by decide, by decide⟩, (hts _ uw_4_86)⟩ hK hP hS hA [] rfl rfl hl.1 rfl (Nat.le_of_ble_eq_true rfl) d_M_cursor_6 ⟨by decide, by decide⟩ (fun u H locs w6 hP hS => ?_)
  obtain ⟨r6, rfl⟩ : ∃ z, z = u := ⟨_, rfl⟩
  try dsimp only at w6
  refine W.eq (g2 := F0 zm 9 ls [.int r6]) rfl ?_
  refine lv_if_eq (tgt := 21) hx hb d_M_cursor_9 (by decide) (fun c1 => ?_) (fun h => absurd (us_d1 w6 h) hbad)
  refine lv_iconst (v := (-1 : Int32)) hx hb d_M_cursor_21 (by decide) ?_
  exact us_iret hQ (by decide) (by decide) hx hb hr hlk hK hS () rfl (by simp) hP hD d_M_cursor_22

set_option maxHeartbeats 4000000 in
set_option maxRecDepth 100000 in
theorem m_hand (zl : Launch) (dC : Nat → ClassId) (dI : Nat → Nat → Nat) (cI cL cS cR : ClassId) (mm : Nat) (p1 : Nat) (p2 : Nat) (p3 : Nat) (p4 : Nat) (p5 : Nat) (p6 : Nat) (p7 : Nat) (p8 : Nat) (p9 : Nat) (p10 : Nat) (p11 : Nat) (p12 : Nat) (p13 : Nat) (p14 : Nat) (p15 : Nat) (p16 : Nat) (p17 : Nat) (p18 : Nat) (p19 : Nat) (p20 : Nat) (p21 : Nat) (p22 : Nat) (mp : Int32) (co : Int32) (cm : Int32) (ope : Int32) (n : Nat) (un : Nat) (he : Nat) (HA : Nat → Int32) (i : Nat) (q : Nat) (hi : i < he) (hhe : he ≤ 16) (hq : q < 5) : us_Met (S := Unit) zl y_M_hand w_M_hand ({ frames := 0, cells := 0, slots := 0, locals := 0 }) (dC, dI) vwCl (us_ty cI cL cS cR) [.ref mm, .int (nI i), .int (nI q)] [(mm, .inr (8, [.int mp, .int co, .int (nI n), .ref p1, .ref p2, .ref p3, .ref p4, .ref p5, .int (nI un), .ref p6, .ref p7, .ref p8, .int cm, .ref p9, .ref p10, .ref p11, .int ope, .ref p12, .ref p13, .ref p14, .ref p15, .ref p16, .ref p17, .ref p18, .ref p19, .ref p20, .ref p21, .int (nI he), .ref p22])), (p22, .inl (cI, 80, .inl HA))] (fun u => some (.int (HA (5 * i + q)))) (fun u => True) (fun u => [(mm, .inr (8, [.int mp, .int (0 : Int32), .int (nI n), .ref p1, .ref p2, .ref p3, .ref p4, .ref p5, .int (nI un), .ref p6, .ref p7, .ref p8, .int cm, .ref p9, .ref p10, .ref p11, .int ope, .ref p12, .ref p13, .ref p14, .ref p15, .ref p16, .ref p17, .ref p18, .ref p19, .ref p20, .ref p21, .int (nI he), .ref p22])), (p22, .inl (cI, 80, .inl HA))]) := by
  refine us_ofW (cc := b_M_hand) (maxL := 3) (ret := (some .int)) (by decide) (Nat.le_of_ble_eq_true rfl) ?_
  intro zp ze zs zm args below meth zc zA ls zQ hQ hx hb hr hml hts hown hlk hin hl hK hP hD hS hA
  have hown : zs.vm.findClass "UpcastStreamsModel" = some zm.cls := hown
  have hl : lv_has ls 3 [(0, .ref mm), (1, .int (nI i)), (2, .int (nI q))] := hl
  obtain ⟨H, hH⟩ : ∃ H, H = zs.heap := ⟨_, rfl⟩
  rw [← hH] at hP ⊢
  have hS : va_S zA zs.heap H [] := hH ▸ hS
  generalize ([] : List Loc) = locs at hS ⊢
  refine lv_aload_n hx hb d_M_hand_0 rfl (lv_at hl 0 rfl) ?_
  refine lv_iload_n hx hb d_M_hand_1 rfl (lv_at hl 1 rfl) ?_
  refine lv_if_lt (tgt := 22) hx hb d_M_hand_2 (by decide) (fun h => absurd h (nI_pos (by omega))) (fun c1 => ?_)
  refine lv_iload_n hx hb d_M_hand_5 rfl (lv_at hl 1 rfl) ?_
  refine lv_aload_n hx hb d_M_hand_6 rfl (lv_at hl 0 rfl) ?_
  refine va_get (D := (dC, dI)) (ci := 8) (v := .int (nI he)) (C := "UpcastStreamsModel") (T := F_M) (N := 29) hx hb hts in_M hown hK hP 0 rfl rfl 27 (by decide) (hts _ uw_3_158) (fun _ h9 => h9) rfl d_M_hand_7 ?_
  refine lv_icmp_ge (tgt := 22) hx hb d_M_hand_10 (by decide) (fun h => absurd h (nI_ge hi (by omega))) (fun c2 => ?_)
  refine lv_iload_n hx hb d_M_hand_13 rfl (lv_at hl 2 rfl) ?_
  refine lv_if_lt (tgt := 22) hx hb d_M_hand_14 (by decide) (fun h => absurd h (nI_pos (by omega))) (fun c3 => ?_)
  refine lv_iload_n hx hb d_M_hand_17 rfl (lv_at hl 2 rfl) ?_
  refine lv_iconst (v := (4 : Int32)) hx hb d_M_hand_18 (by decide) ?_
  refine lv_icmp_le (tgt := 26) hx hb d_M_hand_19 (by decide) (fun c4 => ?_) (fun h => absurd (nI_le (b := 4) (by omega : q ≤ 4) (by omega)) h)
  refine lv_iconst (v := (0 : Int32)) hx hb d_M_hand_26 (by decide) ?_
  refine va_put (D := (dC, dI)) (ci := 8) (v := .int (0 : Int32)) (ty := .int) (C := "UpcastStreamsModel") (T := F_M) (N := 29) hx hb hts in_M t_M t_M_ok n_M hown hK hP hD hS 0 rfl rfl 1 (by decide) (hts _ uw_3_132) (fun _ h9 => h9) rfl (by decide +kernel) rfl rfl (Nat.le_of_ble_eq_true rfl) d_M_hand_27 (fun H locs hP hD hS => ?_)
  have hP : va_P (dC, dI) vwCl [(mm, .inr (8, [.int mp, .int (0 : Int32), .int (nI n), .ref p1, .ref p2, .ref p3, .ref p4, .ref p5, .int (nI un), .ref p6, .ref p7, .ref p8, .int cm, .ref p9, .ref p10, .ref p11, .int ope, .ref p12, .ref p13, .ref p14, .ref p15, .ref p16, .ref p17, .ref p18, .ref p19, .ref p20, .ref p21, .int (nI he), .ref p22])), (p22, .inl (cI, 80, .inl HA))] H := hP
  have hD : va_D zA [(mm, .inr (8, [.int mp, .int (0 : Int32), .int (nI n), .ref p1, .ref p2, .ref p3, .ref p4, .ref p5, .int (nI un), .ref p6, .ref p7, .ref p8, .int cm, .ref p9, .ref p10, .ref p11, .int ope, .ref p12, .ref p13, .ref p14, .ref p15, .ref p16, .ref p17, .ref p18, .ref p19, .ref p20, .ref p21, .int (nI he), .ref p22])), (p22, .inl (cI, 80, .inl HA))] := hD
  refine lv_aload_n hx hb d_M_hand_30 rfl (lv_at hl 0 rfl) ?_
  refine va_get (D := (dC, dI)) (ci := 8) (v := .int (0 : Int32)) (C := "UpcastStreamsModel") (T := F_M) (N := 29) hx hb hts in_M hown hK hP 0 rfl rfl 1 (by decide) (hts _ uw_3_132) (fun _ h9 => h9) rfl d_M_hand_31 ?_
  refine lv_if_le (tgt := 41) hx hb d_M_hand_34 (by decide) (fun c5 => ?_) (fun h => absurd h (by decide))
  refine lv_aload_n hx hb d_M_hand_41 rfl (lv_at hl 0 rfl) ?_
  refine va_get (D := (dC, dI)) (ci := 8) (v := .ref p22) (C := "UpcastStreamsModel") (T := F_M) (N := 29) hx hb hts in_M hown hK hP 0 rfl rfl 28 (by decide) (hts _ uw_3_159) (fun _ h9 => h9) rfl d_M_hand_42 ?_
  refine lv_iconst (v := (5 : Int32)) hx hb d_M_hand_45 (by decide) ?_
  refine lv_iload_n hx hb d_M_hand_46 rfl (lv_at hl 1 rfl) ?_
  refine lv_imul hx hb d_M_hand_47 ?_
  refine us_top (show ((5 : Int32) * (nI i)) = (nI (5 * i)) from us_5i (by omega)) ?_
  refine lv_iload_n hx hb d_M_hand_48 rfl (lv_at hl 2 rfl) ?_
  refine lv_iadd hx hb d_M_hand_49 ?_
  refine us_top (show ((nI (5 * i)) + (nI q)) = (nI (5 * i + q)) from nI_add _ _) ?_
  refine us_iald (j := 5 * i + q) hx hb hK hP 1 0 rfl rfl (vp_in_nI (by omega) (by omega)) (nI_clamp (by omega)) d_M_hand_50 ?_
  exact us_iret hQ (by decide) (by decide) hx hb hr hlk hK hS () rfl (by simp) hP hD d_M_hand_51

set_option maxHeartbeats 4000000 in
set_option maxRecDepth 100000 in
theorem m_hand_no (zl : Launch) (dC : Nat → ClassId) (dI : Nat → Nat → Nat) (cI cL cS cR : ClassId) (mm : Nat) (p1 : Nat) (p2 : Nat) (p3 : Nat) (p4 : Nat) (p5 : Nat) (p6 : Nat) (p7 : Nat) (p8 : Nat) (p9 : Nat) (p10 : Nat) (p11 : Nat) (p12 : Nat) (p13 : Nat) (p14 : Nat) (p15 : Nat) (p16 : Nat) (p17 : Nat) (p18 : Nat) (p19 : Nat) (p20 : Nat) (p21 : Nat) (p22 : Nat) (mp : Int32) (co : Int32) (cm : Int32) (ope : Int32) (n : Nat) (un : Nat) (he : Nat) (y : Int32) (z : Int32) (hbad : ¬ ((0 ≤ y ∧ y < nI he) ∧ 0 ≤ z ∧ z < 5)) : us_Met (S := Unit) zl y_M_hand w_M_hand ({ frames := 0, cells := 0, slots := 0, locals := 0 }) (dC, dI) vwCl (us_ty cI cL cS cR) [.ref mm, .int y, .int z] [(mm, .inr (8, [.int mp, .int co, .int (nI n), .ref p1, .ref p2, .ref p3, .ref p4, .ref p5, .int (nI un), .ref p6, .ref p7, .ref p8, .int cm, .ref p9, .ref p10, .ref p11, .int ope, .ref p12, .ref p13, .ref p14, .ref p15, .ref p16, .ref p17, .ref p18, .ref p19, .ref p20, .ref p21, .int (nI he), .ref p22]))] (fun u => some (.int (0 : Int32))) (fun u => True) (fun u => [(mm, .inr (8, [.int mp, .int (1 : Int32), .int (nI n), .ref p1, .ref p2, .ref p3, .ref p4, .ref p5, .int (nI un), .ref p6, .ref p7, .ref p8, .int cm, .ref p9, .ref p10, .ref p11, .int ope, .ref p12, .ref p13, .ref p14, .ref p15, .ref p16, .ref p17, .ref p18, .ref p19, .ref p20, .ref p21, .int (nI he), .ref p22]))]) := by
  refine us_ofW (cc := b_M_hand) (maxL := 3) (ret := (some .int)) (by decide) (Nat.le_of_ble_eq_true rfl) ?_
  intro zp ze zs zm args below meth zc zA ls zQ hQ hx hb hr hml hts hown hlk hin hl hK hP hD hS hA
  have hown : zs.vm.findClass "UpcastStreamsModel" = some zm.cls := hown
  have hl : lv_has ls 3 [(0, .ref mm), (1, .int y), (2, .int z)] := hl
  obtain ⟨H, hH⟩ : ∃ H, H = zs.heap := ⟨_, rfl⟩
  rw [← hH] at hP ⊢
  have hS : va_S zA zs.heap H [] := hH ▸ hS
  generalize ([] : List Loc) = locs at hS ⊢
  refine lv_aload_n hx hb d_M_hand_0 rfl (lv_at hl 0 rfl) ?_
  refine lv_iload_n hx hb d_M_hand_1 rfl (lv_at hl 1 rfl) ?_
  refine lv_if_lt (tgt := 22) hx hb d_M_hand_2 (by decide) (fun c2 => ?_) (fun c2 => ?_)
  · refine lv_iconst (v := (1 : Int32)) hx hb d_M_hand_22 (by decide) ?_
    refine lv_goto (tgt := 27) hx hb d_M_hand_23 (by decide) ?_
    refine va_put (D := (dC, dI)) (ci := 8) (v := .int (1 : Int32)) (ty := .int) (C := "UpcastStreamsModel") (T := F_M) (N := 29) hx hb hts in_M t_M t_M_ok n_M hown hK hP hD hS 0 rfl rfl 1 (by decide) (hts _ uw_3_132) (fun _ h9 => h9) rfl (by decide +kernel) rfl rfl (Nat.le_of_ble_eq_true rfl) d_M_hand_27 (fun H locs hP hD hS => ?_)
    have hP : va_P (dC, dI) vwCl [(mm, .inr (8, [.int mp, .int (1 : Int32), .int (nI n), .ref p1, .ref p2, .ref p3, .ref p4, .ref p5, .int (nI un), .ref p6, .ref p7, .ref p8, .int cm, .ref p9, .ref p10, .ref p11, .int ope, .ref p12, .ref p13, .ref p14, .ref p15, .ref p16, .ref p17, .ref p18, .ref p19, .ref p20, .ref p21, .int (nI he), .ref p22]))] H := hP
    have hD : va_D zA [(mm, .inr (8, [.int mp, .int (1 : Int32), .int (nI n), .ref p1, .ref p2, .ref p3, .ref p4, .ref p5, .int (nI un), .ref p6, .ref p7, .ref p8, .int cm, .ref p9, .ref p10, .ref p11, .int ope, .ref p12, .ref p13, .ref p14, .ref p15, .ref p16, .ref p17, .ref p18, .ref p19, .ref p20, .ref p21, .int (nI he), .ref p22]))] := hD
    refine lv_aload_n hx hb d_M_hand_30 rfl (lv_at hl 0 rfl) ?_
    refine va_get (D := (dC, dI)) (ci := 8) (v := .int (1 : Int32)) (C := "UpcastStreamsModel") (T := F_M) (N := 29) hx hb hts in_M hown hK hP 0 rfl rfl 1 (by decide) (hts _ uw_3_132) (fun _ h9 => h9) rfl d_M_hand_31 ?_
    refine lv_if_le (tgt := 41) hx hb d_M_hand_34 (by decide) (fun h => absurd h (by decide)) (fun c2 => ?_)
    refine lv_iconst (v := (0 : Int32)) hx hb d_M_hand_37 (by decide) ?_
    refine lv_goto (tgt := 51) hx hb d_M_hand_38 (by decide) ?_
    exact us_iret hQ (by decide) (by decide) hx hb hr hlk hK hS () rfl (by simp) hP hD d_M_hand_51
  · refine lv_iload_n hx hb d_M_hand_5 rfl (lv_at hl 1 rfl) ?_
    refine lv_aload_n hx hb d_M_hand_6 rfl (lv_at hl 0 rfl) ?_
    refine va_get (D := (dC, dI)) (ci := 8) (v := .int (nI he)) (C := "UpcastStreamsModel") (T := F_M) (N := 29) hx hb hts in_M hown hK hP 0 rfl rfl 27 (by decide) (hts _ uw_3_158) (fun _ h9 => h9) rfl d_M_hand_7 ?_
    refine lv_icmp_ge (tgt := 22) hx hb d_M_hand_10 (by decide) (fun c10 => ?_) (fun c10 => ?_)
    · refine lv_iconst (v := (1 : Int32)) hx hb d_M_hand_22 (by decide) ?_
      refine lv_goto (tgt := 27) hx hb d_M_hand_23 (by decide) ?_
      refine va_put (D := (dC, dI)) (ci := 8) (v := .int (1 : Int32)) (ty := .int) (C := "UpcastStreamsModel") (T := F_M) (N := 29) hx hb hts in_M t_M t_M_ok n_M hown hK hP hD hS 0 rfl rfl 1 (by decide) (hts _ uw_3_132) (fun _ h9 => h9) rfl (by decide +kernel) rfl rfl (Nat.le_of_ble_eq_true rfl) d_M_hand_27 (fun H locs hP hD hS => ?_)
      have hP : va_P (dC, dI) vwCl [(mm, .inr (8, [.int mp, .int (1 : Int32), .int (nI n), .ref p1, .ref p2, .ref p3, .ref p4, .ref p5, .int (nI un), .ref p6, .ref p7, .ref p8, .int cm, .ref p9, .ref p10, .ref p11, .int ope, .ref p12, .ref p13, .ref p14, .ref p15, .ref p16, .ref p17, .ref p18, .ref p19, .ref p20, .ref p21, .int (nI he), .ref p22]))] H := hP
      have hD : va_D zA [(mm, .inr (8, [.int mp, .int (1 : Int32), .int (nI n), .ref p1, .ref p2, .ref p3, .ref p4, .ref p5, .int (nI un), .ref p6, .ref p7, .ref p8, .int cm, .ref p9, .ref p10, .ref p11, .int ope, .ref p12, .ref p13, .ref p14, .ref p15, .ref p16, .ref p17, .ref p18, .ref p19, .ref p20, .ref p21, .int (nI he), .ref p22]))] := hD
      refine lv_aload_n hx hb d_M_hand_30 rfl (lv_at hl 0 rfl) ?_
      refine va_get (D := (dC, dI)) (ci := 8) (v := .int (1 : Int32)) (C := "UpcastStreamsModel") (T := F_M) (N := 29) hx hb hts in_M hown hK hP 0 rfl rfl 1 (by decide) (hts _ uw_3_132) (fun _ h9 => h9) rfl d_M_hand_31 ?_
      refine lv_if_le (tgt := 41) hx hb d_M_hand_34 (by decide) (fun h => absurd h (by decide)) (fun c4 => ?_)
      refine lv_iconst (v := (0 : Int32)) hx hb d_M_hand_37 (by decide) ?_
      refine lv_goto (tgt := 51) hx hb d_M_hand_38 (by decide) ?_
      exact us_iret hQ (by decide) (by decide) hx hb hr hlk hK hS () rfl (by simp) hP hD d_M_hand_51
    · refine lv_iload_n hx hb d_M_hand_13 rfl (lv_at hl 2 rfl) ?_
      refine lv_if_lt (tgt := 22) hx hb d_M_hand_14 (by decide) (fun c14 => ?_) (fun c14 => ?_)
      · refine lv_iconst (v := (1 : Int32)) hx hb d_M_hand_22 (by decide) ?_
        refine lv_goto (tgt := 27) hx hb d_M_hand_23 (by decide) ?_
        refine va_put (D := (dC, dI)) (ci := 8) (v := .int (1 : Int32)) (ty := .int) (C := "UpcastStreamsModel") (T := F_M) (N := 29) hx hb hts in_M t_M t_M_ok n_M hown hK hP hD hS 0 rfl rfl 1 (by decide) (hts _ uw_3_132) (fun _ h9 => h9) rfl (by decide +kernel) rfl rfl (Nat.le_of_ble_eq_true rfl) d_M_hand_27 (fun H locs hP hD hS => ?_)
        have hP : va_P (dC, dI) vwCl [(mm, .inr (8, [.int mp, .int (1 : Int32), .int (nI n), .ref p1, .ref p2, .ref p3, .ref p4, .ref p5, .int (nI un), .ref p6, .ref p7, .ref p8, .int cm, .ref p9, .ref p10, .ref p11, .int ope, .ref p12, .ref p13, .ref p14, .ref p15, .ref p16, .ref p17, .ref p18, .ref p19, .ref p20, .ref p21, .int (nI he), .ref p22]))] H := hP
        have hD : va_D zA [(mm, .inr (8, [.int mp, .int (1 : Int32), .int (nI n), .ref p1, .ref p2, .ref p3, .ref p4, .ref p5, .int (nI un), .ref p6, .ref p7, .ref p8, .int cm, .ref p9, .ref p10, .ref p11, .int ope, .ref p12, .ref p13, .ref p14, .ref p15, .ref p16, .ref p17, .ref p18, .ref p19, .ref p20, .ref p21, .int (nI he), .ref p22]))] := hD
        refine lv_aload_n hx hb d_M_hand_30 rfl (lv_at hl 0 rfl) ?_
        refine va_get (D := (dC, dI)) (ci := 8) (v := .int (1 : Int32)) (C := "UpcastStreamsModel") (T := F_M) (N := 29) hx hb hts in_M hown hK hP 0 rfl rfl 1 (by decide) (hts _ uw_3_132) (fun _ h9 => h9) rfl d_M_hand_31 ?_
        refine lv_if_le (tgt := 41) hx hb d_M_hand_34 (by decide) (fun h => absurd h (by decide)) (fun c6 => ?_)
        refine lv_iconst (v := (0 : Int32)) hx hb d_M_hand_37 (by decide) ?_
        refine lv_goto (tgt := 51) hx hb d_M_hand_38 (by decide) ?_
        exact us_iret hQ (by decide) (by decide) hx hb hr hlk hK hS () rfl (by simp) hP hD d_M_hand_51
      · refine lv_iload_n hx hb d_M_hand_17 rfl (lv_at hl 2 rfl) ?_
        refine lv_iconst (v := (4 : Int32)) hx hb d_M_hand_18 (by decide) ?_
        refine lv_icmp_le (tgt := 26) hx hb d_M_hand_19 (by decide) (fun h => absurd ⟨⟨Int32.not_lt.mp c2, Int32.not_le.mp c10⟩, Int32.not_lt.mp c14, us_le_lt5 h⟩ hbad) (fun c7 => ?_)
        refine lv_iconst (v := (1 : Int32)) hx hb d_M_hand_22 (by decide) ?_
        refine lv_goto (tgt := 27) hx hb d_M_hand_23 (by decide) ?_
        refine va_put (D := (dC, dI)) (ci := 8) (v := .int (1 : Int32)) (ty := .int) (C := "UpcastStreamsModel") (T := F_M) (N := 29) hx hb hts in_M t_M t_M_ok n_M hown hK hP hD hS 0 rfl rfl 1 (by decide) (hts _ uw_3_132) (fun _ h9 => h9) rfl (by decide +kernel) rfl rfl (Nat.le_of_ble_eq_true rfl) d_M_hand_27 (fun H locs hP hD hS => ?_)
        have hP : va_P (dC, dI) vwCl [(mm, .inr (8, [.int mp, .int (1 : Int32), .int (nI n), .ref p1, .ref p2, .ref p3, .ref p4, .ref p5, .int (nI un), .ref p6, .ref p7, .ref p8, .int cm, .ref p9, .ref p10, .ref p11, .int ope, .ref p12, .ref p13, .ref p14, .ref p15, .ref p16, .ref p17, .ref p18, .ref p19, .ref p20, .ref p21, .int (nI he), .ref p22]))] H := hP
        have hD : va_D zA [(mm, .inr (8, [.int mp, .int (1 : Int32), .int (nI n), .ref p1, .ref p2, .ref p3, .ref p4, .ref p5, .int (nI un), .ref p6, .ref p7, .ref p8, .int cm, .ref p9, .ref p10, .ref p11, .int ope, .ref p12, .ref p13, .ref p14, .ref p15, .ref p16, .ref p17, .ref p18, .ref p19, .ref p20, .ref p21, .int (nI he), .ref p22]))] := hD
        refine lv_aload_n hx hb d_M_hand_30 rfl (lv_at hl 0 rfl) ?_
        refine va_get (D := (dC, dI)) (ci := 8) (v := .int (1 : Int32)) (C := "UpcastStreamsModel") (T := F_M) (N := 29) hx hb hts in_M hown hK hP 0 rfl rfl 1 (by decide) (hts _ uw_3_132) (fun _ h9 => h9) rfl d_M_hand_31 ?_
        refine lv_if_le (tgt := 41) hx hb d_M_hand_34 (by decide) (fun h => absurd h (by decide)) (fun c8 => ?_)
        refine lv_iconst (v := (0 : Int32)) hx hb d_M_hand_37 (by decide) ?_
        refine lv_goto (tgt := 51) hx hb d_M_hand_38 (by decide) ?_
        exact us_iret hQ (by decide) (by decide) hx hb hr hlk hK hS () rfl (by simp) hP hD d_M_hand_51

set_option maxHeartbeats 4000000 in
set_option maxRecDepth 100000 in
theorem m_poll_no (zl : Launch) (dC : Nat → ClassId) (dI : Nat → Nat → Nat) (cI cL cS cR : ClassId) (mm : Nat) (p1 : Nat) (p2 : Nat) (p3 : Nat) (p4 : Nat) (p5 : Nat) (p6 : Nat) (p7 : Nat) (p8 : Nat) (p9 : Nat) (p10 : Nat) (p11 : Nat) (p12 : Nat) (p13 : Nat) (p14 : Nat) (p15 : Nat) (p16 : Nat) (p17 : Nat) (p18 : Nat) (p19 : Nat) (p20 : Nat) (p21 : Nat) (p22 : Nat) (mp : Int32) (co : Int32) (cm : Int32) (ope : Int32) (n : Nat) (un : Nat) (he : Nat) (y : Int32) (k : Int32) (hbad : ¬ ((0 ≤ y ∧ y < 4) ∧ 1 ≤ k ∧ k ≤ 4)) : us_Met (S := Unit) zl y_M_poll w_M_poll ({ frames := 1, cells := 0, slots := 0, locals := 20 }) (dC, dI) vwCl (us_ty cI cL cS cR) [.ref mm, .int y, .int k] [(mm, .inr (8, [.int mp, .int co, .int (nI n), .ref p1, .ref p2, .ref p3, .ref p4, .ref p5, .int (nI un), .ref p6, .ref p7, .ref p8, .int cm, .ref p9, .ref p10, .ref p11, .int ope, .ref p12, .ref p13, .ref p14, .ref p15, .ref p16, .ref p17, .ref p18, .ref p19, .ref p20, .ref p21, .int (nI he), .ref p22]))] (fun u => some (.int (0 : Int32))) (fun u => True) (fun u => [(mm, .inr (8, [.int mp, .int (1 : Int32), .int (nI n), .ref p1, .ref p2, .ref p3, .ref p4, .ref p5, .int (nI un), .ref p6, .ref p7, .ref p8, .int cm, .ref p9, .ref p10, .ref p11, .int ope, .ref p12, .ref p13, .ref p14, .ref p15, .ref p16, .ref p17, .ref p18, .ref p19, .ref p20, .ref p21, .int (nI he), .ref p22]))]) := by
  refine us_ofW (cc := b_M_poll) (maxL := 6) (ret := (some .int)) (by decide) (Nat.le_of_ble_eq_true rfl) ?_
  intro zp ze zs zm args below meth zc zA ls zQ hQ hx hb hr hml hts hown hlk hin hl hK hP hD hS hA
  have hown : zs.vm.findClass "UpcastStreamsModel" = some zm.cls := hown
  have hl : lv_has ls 6 [(0, .ref mm), (1, .int y), (2, .int k)] := hl
  obtain ⟨H, hH⟩ : ∃ H, H = zs.heap := ⟨_, rfl⟩
  rw [← hH] at hP ⊢
  have hS : va_S zA zs.heap H [] := hH ▸ hS
  generalize ([] : List Loc) = locs at hS ⊢
  refine lv_aload_n hx hb d_M_poll_0 rfl (lv_at hl 0 rfl) ?_
  refine lv_iload_n hx hb d_M_poll_1 rfl (lv_at hl 1 rfl) ?_
  refine us_callRS (As := [.int y]) (rest := [.ref mm]) ⟨hx, hb, hml, hown, hts⟩ (m_isReader zl dC dI cI cL cS cR y ) ⟨callB_of 1 hts (us_gC k_M_isReader) rfl rfl rfl (hts _ uw_1_10) (hts _ uw_4_85) h_M_isReader.2 ⟨by decide, by decide⟩, (hts _ uw_4_86)⟩ hK hP hS hA [] rfl rfl hl.1 rfl (Nat.le_of_ble_eq_true rfl) d_M_poll_2 ⟨by decide, by decide⟩ (fun u H locs w2 hP hS => ?_)
  obtain ⟨r2, rfl⟩ : ∃ z, z = u := ⟨_, rfl⟩
  try dsimp only at w2
  refine W.eq (g2 := F0 zm 5 ls [.int r2, .ref mm]) rfl ?_
  refine lv_if_eq (tgt := 18) hx hb d_M_poll_5 (by decide) (fun c5 => ?_) (fun c5 => ?_)
  · refine lv_iconst (v := (1 : Int32)) hx hb d_M_poll_18 (by decide) ?_
    refine lv_goto (tgt := 23) hx hb d_M_poll_19 (by decide) ?_
    refine va_put (D := (dC, dI)) (ci := 8) (v := .int (1 : Int32)) (ty := .int) (C := "UpcastStreamsModel") (T := F_M) (N := 29) hx hb hts in_M t_M t_M_ok n_M hown hK hP hD hS 0 rfl rfl 1 (by decide) (hts _ uw_3_132) (fun _ h9 => h9) rfl (by decide +kernel) rfl rfl (Nat.le_of_ble_eq_true rfl) d_M_poll_23 (fun H locs hP hD hS => ?_)
    have hP : va_P (dC, dI) vwCl [(mm, .inr (8, [.int mp, .int (1 : Int32), .int (nI n), .ref p1, .ref p2, .ref p3, .ref p4, .ref p5, .int (nI un), .ref p6, .ref p7, .ref p8, .int cm, .ref p9, .ref p10, .ref p11, .int ope, .ref p12, .ref p13, .ref p14, .ref p15, .ref p16, .ref p17, .ref p18, .ref p19, .ref p20, .ref p21, .int (nI he), .ref p22]))] H := hP
    have hD : va_D zA [(mm, .inr (8, [.int mp, .int (1 : Int32), .int (nI n), .ref p1, .ref p2, .ref p3, .ref p4, .ref p5, .int (nI un), .ref p6, .ref p7, .ref p8, .int cm, .ref p9, .ref p10, .ref p11, .int ope, .ref p12, .ref p13, .ref p14, .ref p15, .ref p16, .ref p17, .ref p18, .ref p19, .ref p20, .ref p21, .int (nI he), .ref p22]))] := hD
    refine lv_aload_n hx hb d_M_poll_26 rfl (lv_at hl 0 rfl) ?_
    refine va_get (D := (dC, dI)) (ci := 8) (v := .int (1 : Int32)) (C := "UpcastStreamsModel") (T := F_M) (N := 29) hx hb hts in_M hown hK hP 0 rfl rfl 1 (by decide) (hts _ uw_3_132) (fun _ h9 => h9) rfl d_M_poll_27 ?_
    refine lv_if_le (tgt := 35) hx hb d_M_poll_30 (by decide) (fun h => absurd h (by decide)) (fun c2 => ?_)
    refine lv_iconst (v := (0 : Int32)) hx hb d_M_poll_33 (by decide) ?_
    exact us_iret hQ (by decide) (by decide) hx hb hr hlk hK hS () rfl (by simp) hP hD d_M_poll_34
  · refine lv_iload_n hx hb d_M_poll_8 rfl (lv_at hl 2 rfl) ?_
    refine lv_iconst (v := (1 : Int32)) hx hb d_M_poll_9 (by decide) ?_
    refine lv_icmp_lt (tgt := 18) hx hb d_M_poll_10 (by decide) (fun c10 => ?_) (fun c10 => ?_)
    · refine lv_iconst (v := (1 : Int32)) hx hb d_M_poll_18 (by decide) ?_
      refine lv_goto (tgt := 23) hx hb d_M_poll_19 (by decide) ?_
      refine va_put (D := (dC, dI)) (ci := 8) (v := .int (1 : Int32)) (ty := .int) (C := "UpcastStreamsModel") (T := F_M) (N := 29) hx hb hts in_M t_M t_M_ok n_M hown hK hP hD hS 0 rfl rfl 1 (by decide) (hts _ uw_3_132) (fun _ h9 => h9) rfl (by decide +kernel) rfl rfl (Nat.le_of_ble_eq_true rfl) d_M_poll_23 (fun H locs hP hD hS => ?_)
      have hP : va_P (dC, dI) vwCl [(mm, .inr (8, [.int mp, .int (1 : Int32), .int (nI n), .ref p1, .ref p2, .ref p3, .ref p4, .ref p5, .int (nI un), .ref p6, .ref p7, .ref p8, .int cm, .ref p9, .ref p10, .ref p11, .int ope, .ref p12, .ref p13, .ref p14, .ref p15, .ref p16, .ref p17, .ref p18, .ref p19, .ref p20, .ref p21, .int (nI he), .ref p22]))] H := hP
      have hD : va_D zA [(mm, .inr (8, [.int mp, .int (1 : Int32), .int (nI n), .ref p1, .ref p2, .ref p3, .ref p4, .ref p5, .int (nI un), .ref p6, .ref p7, .ref p8, .int cm, .ref p9, .ref p10, .ref p11, .int ope, .ref p12, .ref p13, .ref p14, .ref p15, .ref p16, .ref p17, .ref p18, .ref p19, .ref p20, .ref p21, .int (nI he), .ref p22]))] := hD
      refine lv_aload_n hx hb d_M_poll_26 rfl (lv_at hl 0 rfl) ?_
      refine va_get (D := (dC, dI)) (ci := 8) (v := .int (1 : Int32)) (C := "UpcastStreamsModel") (T := F_M) (N := 29) hx hb hts in_M hown hK hP 0 rfl rfl 1 (by decide) (hts _ uw_3_132) (fun _ h9 => h9) rfl d_M_poll_27 ?_
      refine lv_if_le (tgt := 35) hx hb d_M_poll_30 (by decide) (fun h => absurd h (by decide)) (fun c4 => ?_)
      refine lv_iconst (v := (0 : Int32)) hx hb d_M_poll_33 (by decide) ?_
      exact us_iret hQ (by decide) (by decide) hx hb hr hlk hK hS () rfl (by simp) hP hD d_M_poll_34
    · refine lv_iload_n hx hb d_M_poll_13 rfl (lv_at hl 2 rfl) ?_
      refine lv_iconst (v := (4 : Int32)) hx hb d_M_poll_14 (by decide) ?_
      refine lv_icmp_le (tgt := 22) hx hb d_M_poll_15 (by decide) (fun h => absurd ⟨us_d1 w2 c5, Int32.not_lt.mp c10, h⟩ hbad) (fun c5 => ?_)
      refine lv_iconst (v := (1 : Int32)) hx hb d_M_poll_18 (by decide) ?_
      refine lv_goto (tgt := 23) hx hb d_M_poll_19 (by decide) ?_
      refine va_put (D := (dC, dI)) (ci := 8) (v := .int (1 : Int32)) (ty := .int) (C := "UpcastStreamsModel") (T := F_M) (N := 29) hx hb hts in_M t_M t_M_ok n_M hown hK hP hD hS 0 rfl rfl 1 (by decide) (hts _ uw_3_132) (fun _ h9 => h9) rfl (by decide +kernel) rfl rfl (Nat.le_of_ble_eq_true rfl) d_M_poll_23 (fun H locs hP hD hS => ?_)
      have hP : va_P (dC, dI) vwCl [(mm, .inr (8, [.int mp, .int (1 : Int32), .int (nI n), .ref p1, .ref p2, .ref p3, .ref p4, .ref p5, .int (nI un), .ref p6, .ref p7, .ref p8, .int cm, .ref p9, .ref p10, .ref p11, .int ope, .ref p12, .ref p13, .ref p14, .ref p15, .ref p16, .ref p17, .ref p18, .ref p19, .ref p20, .ref p21, .int (nI he), .ref p22]))] H := hP
      have hD : va_D zA [(mm, .inr (8, [.int mp, .int (1 : Int32), .int (nI n), .ref p1, .ref p2, .ref p3, .ref p4, .ref p5, .int (nI un), .ref p6, .ref p7, .ref p8, .int cm, .ref p9, .ref p10, .ref p11, .int ope, .ref p12, .ref p13, .ref p14, .ref p15, .ref p16, .ref p17, .ref p18, .ref p19, .ref p20, .ref p21, .int (nI he), .ref p22]))] := hD
      refine lv_aload_n hx hb d_M_poll_26 rfl (lv_at hl 0 rfl) ?_
      refine va_get (D := (dC, dI)) (ci := 8) (v := .int (1 : Int32)) (C := "UpcastStreamsModel") (T := F_M) (N := 29) hx hb hts in_M hown hK hP 0 rfl rfl 1 (by decide) (hts _ uw_3_132) (fun _ h9 => h9) rfl d_M_poll_27 ?_
      refine lv_if_le (tgt := 35) hx hb d_M_poll_30 (by decide) (fun h => absurd h (by decide)) (fun c6 => ?_)
      refine lv_iconst (v := (0 : Int32)) hx hb d_M_poll_33 (by decide) ?_
      exact us_iret hQ (by decide) (by decide) hx hb hr hlk hK hS () rfl (by simp) hP hD d_M_poll_34
