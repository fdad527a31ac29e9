set_option maxHeartbeats 4000000 in
set_option maxRecDepth 100000 in
theorem m_stage (zl : Launch) (dC : Nat → ClassId) (dI : Nat → Nat → Nat) (cI cL cS cR : ClassId) (mm : Nat) (p1 : Nat) (p2 : Nat) (p3 : Nat) (p4 : Nat) (p5 : Nat) (p6 : Nat) (p7 : Nat) (p8 : Nat) (p9 : Nat) (p10 : Nat) (p11 : Nat) (p12 : Nat) (p13 : Nat) (p14 : Nat) (p15 : Nat) (p16 : Nat) (p17 : Nat) (p18 : Nat) (p19 : Nat) (p20 : Nat) (p21 : Nat) (p22 : Nat) (mp : Int32) (co : Int32) (cm : Int32) (ope : Int32) (n : Nat) (un : Nat) (he : Nat) (MT : Nat → Int32) (MF : Nat → Int32) (MU : Nat → Int32) (MV : Nat → Int32) (MS : Nat → Int32) (t : Int32) (f : Int32) (a : Int32) (b : Int32) (es : List us_Ev) (bs : List us_Ev) (st : Nat → Nat) (hL : us_ml MS MT MF MU MV n es st) (hB : us_mb MT MF MU MV un bs) (hun4 : un ≤ 4) : us_Met (S := Int32 × (Nat → Int32) × (Nat → Int32) × (Nat → Int32) × (Nat → Int32) × Nat) zl y_M_stage w_M_stage ({ frames := 1, cells := 0, slots := 0, locals := 20 }) (dC, dI) vwCl (us_ty cI cL cS cR) [.ref mm, .int t, .int f, .int a, .int b] [(mm, .inr (8, [.int mp, .int co, .int (nI n), .ref p1, .ref p2, .ref p3, .ref p4, .ref p5, .int (nI un), .ref p6, .ref p7, .ref p8, .int cm, .ref p9, .ref p10, .ref p11, .int ope, .ref p12, .ref p13, .ref p14, .ref p15, .ref p16, .ref p17, .ref p18, .ref p19, .ref p20, .ref p21, .int (nI he), .ref p22])), (p2, .inl (cI, 68, .inl MT)), (p3, .inl (cI, 68, .inl MF)), (p4, .inl (cI, 68, .inl MU)), (p5, .inl (cI, 68, .inl MV))] (fun u => some (.int u.1)) (fun u => ((un < 4 ∧ (0 ≤ t ∧ t < 6) ∧ 1 ≤ f ∧ f ≤ 3) → u.1 = 1 ∧ us_mb u.2.1 u.2.2.1 u.2.2.2.1 u.2.2.2.2.1 u.2.2.2.2.2 (bs ++ [(t.toNatClampNeg, f.toNatClampNeg, a, b)]) ∧ us_ml MS u.2.1 u.2.2.1 u.2.2.2.1 u.2.2.2.2.1 n es st ∧ u.2.2.2.2.2 = un + 1) ∧ (¬ (un < 4 ∧ (0 ≤ t ∧ t < 6) ∧ 1 ≤ f ∧ f ≤ 3) → u.1 = 0 ∧ us_mb u.2.1 u.2.2.1 u.2.2.2.1 u.2.2.2.2.1 u.2.2.2.2.2 bs ∧ us_ml MS u.2.1 u.2.2.1 u.2.2.2.1 u.2.2.2.2.1 n es st ∧ u.2.2.2.2.2 = un)) (fun u => [(mm, .inr (8, [.int mp, .int (0 : Int32), .int (nI n), .ref p1, .ref p2, .ref p3, .ref p4, .ref p5, .int (nI u.2.2.2.2.2), .ref p6, .ref p7, .ref p8, .int cm, .ref p9, .ref p10, .ref p11, .int ope, .ref p12, .ref p13, .ref p14, .ref p15, .ref p16, .ref p17, .ref p18, .ref p19, .ref p20, .ref p21, .int (nI he), .ref p22])), (p2, .inl (cI, 68, .inl u.2.1)), (p3, .inl (cI, 68, .inl u.2.2.1)), (p4, .inl (cI, 68, .inl u.2.2.2.1)), (p5, .inl (cI, 68, .inl u.2.2.2.2.1))]) := by
  refine us_ofW (cc := b_M_stage) (maxL := 5) (ret := (some .boolean)) (by decide) (Nat.le_of_ble_eq_true rfl) ?_
  intro zp ze zs zm args below meth zc zA ls zQ hQ hx hb hr hml hts hown hlk hin hl hK hP hD hS hA
  have hown : zs.vm.findClass "UpcastStreamsModel" = some zm.cls := hown
  have hl : lv_has ls 5 [(0, .ref mm), (1, .int t), (2, .int f), (3, .int a), (4, .int b)] := hl
  obtain ⟨H, hH⟩ : ∃ H, H = zs.heap := ⟨_, rfl⟩
  rw [← hH] at hP ⊢
  have hS : va_S zA zs.heap H [] := hH ▸ hS
  generalize ([] : List Loc) = locs at hS ⊢
  refine lv_aload_n hx hb d_M_stage_0 rfl (lv_at hl 0 rfl) ?_
  refine lv_iconst (v := (0 : Int32)) hx hb d_M_stage_1 (by decide) ?_
  refine va_put (D := (dC, dI)) (ci := 8) (v := .int (0 : Int32)) (ty := .int) (C := "UpcastStreamsModel") (T := F_M) (N := 29) hx hb hts in_M t_M t_M_ok n_M hown hK hP hD hS 0 rfl rfl 1 (by decide) (hts _ uw_3_132) (fun _ h9 => h9) rfl (by decide +kernel) rfl rfl (Nat.le_of_ble_eq_true rfl) d_M_stage_2 (fun H locs hP hD hS => ?_)
  have hP : va_P (dC, dI) vwCl [(mm, .inr (8, [.int mp, .int (0 : Int32), .int (nI n), .ref p1, .ref p2, .ref p3, .ref p4, .ref p5, .int (nI un), .ref p6, .ref p7, .ref p8, .int cm, .ref p9, .ref p10, .ref p11, .int ope, .ref p12, .ref p13, .ref p14, .ref p15, .ref p16, .ref p17, .ref p18, .ref p19, .ref p20, .ref p21, .int (nI he), .ref p22])), (p2, .inl (cI, 68, .inl MT)), (p3, .inl (cI, 68, .inl MF)), (p4, .inl (cI, 68, .inl MU)), (p5, .inl (cI, 68, .inl MV))] H := hP
  have hD : va_D zA [(mm, .inr (8, [.int mp, .int (0 : Int32), .int (nI n), .ref p1, .ref p2, .ref p3, .ref p4, .ref p5, .int (nI un), .ref p6, .ref p7, .ref p8, .int cm, .ref p9, .ref p10, .ref p11, .int ope, .ref p12, .ref p13, .ref p14, .ref p15, .ref p16, .ref p17, .ref p18, .ref p19, .ref p20, .ref p21, .int (nI he), .ref p22])), (p2, .inl (cI, 68, .inl MT)), (p3, .inl (cI, 68, .inl MF)), (p4, .inl (cI, 68, .inl MU)), (p5, .inl (cI, 68, .inl MV))] := hD
  refine lv_aload_n hx hb d_M_stage_5 rfl (lv_at hl 0 rfl) ?_
  refine va_get (D := (dC, dI)) (ci := 8) (v := .int (nI un)) (C := "UpcastStreamsModel") (T := F_M) (N := 29) hx hb hts in_M hown hK hP 0 rfl rfl 8 (by decide) (hts _ uw_3_139) (fun _ h9 => h9) rfl d_M_stage_6 ?_
  refine lv_iconst (v := (4 : Int32)) hx hb d_M_stage_9 (by decide) ?_
  refine lv_icmp_eq (tgt := 30) hx hb d_M_stage_10 (by decide) (fun c10 => ?_) (fun c10 => ?_)
  · refine lv_iconst (v := (0 : Int32)) hx hb d_M_stage_30 (by decide) ?_
    exact us_zret hQ (by decide) (by decide) hx hb hr hlk hK hS ((0 : Int32), MT, MF, MU, MV, un) (by decide) rfl (⟨fun q => by first | exact absurd ((nI_eq (a := un) (b := 4) (by omega) (by omega)).mp c10) (by omega) | exact absurd q.2.1 (us_d0 w14 c17) | exact absurd q.2.2.1 (Int32.not_le.mpr c22) | exact absurd q.2.2.2 c27, fun _ => ⟨rfl, hB, hL, rfl⟩⟩) hP hD d_M_stage_31
  · refine lv_iload_n hx hb d_M_stage_13 rfl (lv_at hl 1 rfl) ?_
    refine us_callRS (As := [.int t]) (rest := []) ⟨hx, hb, hml, hown, hts⟩ (m_isType zl dC dI cI cL cS cR t ) ⟨callB_of 1 hts (us_gC k_M_isType) rfl rfl rfl (hts _ uw_1_10) (hts _ uw_3_228) h_M_isType.2 ⟨by decide, by decide⟩, (hts _ uw_3_229)⟩ hK hP hS hA [] rfl rfl hl.1 rfl (Nat.le_of_ble_eq_true rfl) d_M_stage_14 ⟨by decide, by decide⟩ (fun u H locs w14 hP hS => ?_)
    obtain ⟨r14, rfl⟩ : ∃ z, z = u := ⟨_, rfl⟩
    try dsimp only at w14
    refine W.eq (g2 := F0 zm 17 ls [.int r14]) rfl ?_
    refine lv_if_eq (tgt := 30) hx hb d_M_stage_17 (by decide) (fun c17 => ?_) (fun c17 => ?_)
    · refine lv_iconst (v := (0 : Int32)) hx hb d_M_stage_30 (by decide) ?_
      exact us_zret hQ (by decide) (by decide) hx hb hr hlk hK hS ((0 : Int32), MT, MF, MU, MV, un) (by decide) rfl (⟨fun q => by first | exact absurd ((nI_eq (a := un) (b := 4) (by omega) (by omega)).mp c10) (by omega) | exact absurd q.2.1 (us_d0 w14 c17) | exact absurd q.2.2.1 (Int32.not_le.mpr c22) | exact absurd q.2.2.2 c27, fun _ => ⟨rfl, hB, hL, rfl⟩⟩) hP hD d_M_stage_31
    · refine lv_iload_n hx hb d_M_stage_20 rfl (lv_at hl 2 rfl) ?_
      refine lv_iconst (v := (1 : Int32)) hx hb d_M_stage_21 (by decide) ?_
      refine lv_icmp_lt (tgt := 30) hx hb d_M_stage_22 (by decide) (fun c22 => ?_) (fun c22 => ?_)
      · refine lv_iconst (v := (0 : Int32)) hx hb d_M_stage_30 (by decide) ?_
        exact us_zret hQ (by decide) (by decide) hx hb hr hlk hK hS ((0 : Int32), MT, MF, MU, MV, un) (by decide) rfl (⟨fun q => by first | exact absurd ((nI_eq (a := un) (b := 4) (by omega) (by omega)).mp c10) (by omega) | exact absurd q.2.1 (us_d0 w14 c17) | exact absurd q.2.2.1 (Int32.not_le.mpr c22) | exact absurd q.2.2.2 c27, fun _ => ⟨rfl, hB, hL, rfl⟩⟩) hP hD d_M_stage_31
      · refine lv_iload_n hx hb d_M_stage_25 rfl (lv_at hl 2 rfl) ?_
        refine lv_iconst (v := (3 : Int32)) hx hb d_M_stage_26 (by decide) ?_
        refine lv_icmp_le (tgt := 32) hx hb d_M_stage_27 (by decide) (fun c27 => ?_) (fun c27 => ?_)
        · have hlt : un < 4 := by { have z : ¬ un = 4 := fun z => c10 (by rw [z]; rfl); omega }
          have hvt := us_d1 w14 c17
          have hf1 : 1 ≤ f := Int32.not_lt.mp c22
          have hf0 : 0 ≤ f := Int32.le_trans (by decide) hf1
          have hok : us_ok (t.toNatClampNeg, f.toNatClampNeg, a, b) := us_okf hvt hf1 c27
          have hzt := us_clamp hvt.1
          have hzf := us_clamp hf0
          refine lv_aload_n hx hb d_M_stage_32 rfl (lv_at hl 0 rfl) ?_
          refine va_get (D := (dC, dI)) (ci := 8) (v := .ref p2) (C := "UpcastStreamsModel") (T := F_M) (N := 29) hx hb hts in_M hown hK hP 0 rfl rfl 4 (by decide) (hts _ uw_3_135) (fun _ h9 => h9) rfl d_M_stage_33 ?_
          refine lv_bipush (v := (64 : Int32)) hx hb d_M_stage_36 (by decide) ?_
          refine lv_aload_n hx hb d_M_stage_38 rfl (lv_at hl 0 rfl) ?_
          refine va_get (D := (dC, dI)) (ci := 8) (v := .int (nI un)) (C := "UpcastStreamsModel") (T := F_M) (N := 29) hx hb hts in_M hown hK hP 0 rfl rfl 8 (by decide) (hts _ uw_3_139) (fun _ h9 => h9) rfl d_M_stage_39 ?_
          refine lv_iadd hx hb d_M_stage_42 ?_
          refine us_top (show ((64 : Int32) + (nI un)) = (nI (64 + un)) from nI_add 64 un) ?_
          refine lv_iload_n hx hb d_M_stage_43 rfl (lv_at hl 1 rfl) ?_
          refine us_iast (j := 64 + un) hx hb hK hP hD hS 1 0 rfl rfl (vp_in_nI (by omega) (by omega)) (nI_clamp (by omega)) d_M_stage_44 (fun H locs hP hD hS => ?_)
          have hP : va_P (dC, dI) vwCl [(mm, .inr (8, [.int mp, .int (0 : Int32), .int (nI n), .ref p1, .ref p2, .ref p3, .ref p4, .ref p5, .int (nI un), .ref p6, .ref p7, .ref p8, .int cm, .ref p9, .ref p10, .ref p11, .int ope, .ref p12, .ref p13, .ref p14, .ref p15, .ref p16, .ref p17, .ref p18, .ref p19, .ref p20, .ref p21, .int (nI he), .ref p22])), (p2, .inl (cI, 68, .inl (upd MT (64 + un) t))), (p3, .inl (cI, 68, .inl MF)), (p4, .inl (cI, 68, .inl MU)), (p5, .inl (cI, 68, .inl MV))] H := hP
          have hD : va_D zA [(mm, .inr (8, [.int mp, .int (0 : Int32), .int (nI n), .ref p1, .ref p2, .ref p3, .ref p4, .ref p5, .int (nI un), .ref p6, .ref p7, .ref p8, .int cm, .ref p9, .ref p10, .ref p11, .int ope, .ref p12, .ref p13, .ref p14, .ref p15, .ref p16, .ref p17, .ref p18, .ref p19, .ref p20, .ref p21, .int (nI he), .ref p22])), (p2, .inl (cI, 68, .inl (upd MT (64 + un) t))), (p3, .inl (cI, 68, .inl MF)), (p4, .inl (cI, 68, .inl MU)), (p5, .inl (cI, 68, .inl MV))] := hD
          refine lv_aload_n hx hb d_M_stage_45 rfl (lv_at hl 0 rfl) ?_
          refine va_get (D := (dC, dI)) (ci := 8) (v := .ref p3) (C := "UpcastStreamsModel") (T := F_M) (N := 29) hx hb hts in_M hown hK hP 0 rfl rfl 5 (by decide) (hts _ uw_3_136) (fun _ h9 => h9) rfl d_M_stage_46 ?_
          refine lv_bipush (v := (64 : Int32)) hx hb d_M_stage_49 (by decide) ?_
          refine lv_aload_n hx hb d_M_stage_51 rfl (lv_at hl 0 rfl) ?_
          refine va_get (D := (dC, dI)) (ci := 8) (v := .int (nI un)) (C := "UpcastStreamsModel") (T := F_M) (N := 29) hx hb hts in_M hown hK hP 0 rfl rfl 8 (by decide) (hts _ uw_3_139) (fun _ h9 => h9) rfl d_M_stage_52 ?_
          refine lv_iadd hx hb d_M_stage_55 ?_
          refine us_top (show ((64 : Int32) + (nI un)) = (nI (64 + un)) from nI_add 64 un) ?_
          refine lv_iload_n hx hb d_M_stage_56 rfl (lv_at hl 2 rfl) ?_
          refine us_iast (j := 64 + un) hx hb hK hP hD hS 2 0 rfl rfl (vp_in_nI (by omega) (by omega)) (nI_clamp (by omega)) d_M_stage_57 (fun H locs hP hD hS => ?_)
          have hP : va_P (dC, dI) vwCl [(mm, .inr (8, [.int mp, .int (0 : Int32), .int (nI n), .ref p1, .ref p2, .ref p3, .ref p4, .ref p5, .int (nI un), .ref p6, .ref p7, .ref p8, .int cm, .ref p9, .ref p10, .ref p11, .int ope, .ref p12, .ref p13, .ref p14, .ref p15, .ref p16, .ref p17, .ref p18, .ref p19, .ref p20, .ref p21, .int (nI he), .ref p22])), (p2, .inl (cI, 68, .inl (upd MT (64 + un) t))), (p3, .inl (cI, 68, .inl (upd MF (64 + un) f))), (p4, .inl (cI, 68, .inl MU)), (p5, .inl (cI, 68, .inl MV))] H := hP
          have hD : va_D zA [(mm, .inr (8, [.int mp, .int (0 : Int32), .int (nI n), .ref p1, .ref p2, .ref p3, .ref p4, .ref p5, .int (nI un), .ref p6, .ref p7, .ref p8, .int cm, .ref p9, .ref p10, .ref p11, .int ope, .ref p12, .ref p13, .ref p14, .ref p15, .ref p16, .ref p17, .ref p18, .ref p19, .ref p20, .ref p21, .int (nI he), .ref p22])), (p2, .inl (cI, 68, .inl (upd MT (64 + un) t))), (p3, .inl (cI, 68, .inl (upd MF (64 + un) f))), (p4, .inl (cI, 68, .inl MU)), (p5, .inl (cI, 68, .inl MV))] := hD
          refine lv_aload_n hx hb d_M_stage_58 rfl (lv_at hl 0 rfl) ?_
          refine va_get (D := (dC, dI)) (ci := 8) (v := .ref p4) (C := "UpcastStreamsModel") (T := F_M) (N := 29) hx hb hts in_M hown hK hP 0 rfl rfl 6 (by decide) (hts _ uw_3_137) (fun _ h9 => h9) rfl d_M_stage_59 ?_
          refine lv_bipush (v := (64 : Int32)) hx hb d_M_stage_62 (by decide) ?_
          refine lv_aload_n hx hb d_M_stage_64 rfl (lv_at hl 0 rfl) ?_
          refine va_get (D := (dC, dI)) (ci := 8) (v := .int (nI un)) (C := "UpcastStreamsModel") (T := F_M) (N := 29) hx hb hts in_M hown hK hP 0 rfl rfl 8 (by decide) (hts _ uw_3_139) (fun _ h9 => h9) rfl d_M_stage_65 ?_
          refine lv_iadd hx hb d_M_stage_68 ?_
          refine us_top (show ((64 : Int32) + (nI un)) = (nI (64 + un)) from nI_add 64 un) ?_
          refine lv_iload_n hx hb d_M_stage_69 rfl (lv_at hl 3 rfl) ?_
          refine us_iast (j := 64 + un) hx hb hK hP hD hS 3 0 rfl rfl (vp_in_nI (by omega) (by omega)) (nI_clamp (by omega)) d_M_stage_70 (fun H locs hP hD hS => ?_)
          have hP : va_P (dC, dI) vwCl [(mm, .inr (8, [.int mp, .int (0 : Int32), .int (nI n), .ref p1, .ref p2, .ref p3, .ref p4, .ref p5, .int (nI un), .ref p6, .ref p7, .ref p8, .int cm, .ref p9, .ref p10, .ref p11, .int ope, .ref p12, .ref p13, .ref p14, .ref p15, .ref p16, .ref p17, .ref p18, .ref p19, .ref p20, .ref p21, .int (nI he), .ref p22])), (p2, .inl (cI, 68, .inl (upd MT (64 + un) t))), (p3, .inl (cI, 68, .inl (upd MF (64 + un) f))), (p4, .inl (cI, 68, .inl (upd MU (64 + un) a))), (p5, .inl (cI, 68, .inl MV))] H := hP
          have hD : va_D zA [(mm, .inr (8, [.int mp, .int (0 : Int32), .int (nI n), .ref p1, .ref p2, .ref p3, .ref p4, .ref p5, .int (nI un), .ref p6, .ref p7, .ref p8, .int cm, .ref p9, .ref p10, .ref p11, .int ope, .ref p12, .ref p13, .ref p14, .ref p15, .ref p16, .ref p17, .ref p18, .ref p19, .ref p20, .ref p21, .int (nI he), .ref p22])), (p2, .inl (cI, 68, .inl (upd MT (64 + un) t))), (p3, .inl (cI, 68, .inl (upd MF (64 + un) f))), (p4, .inl (cI, 68, .inl (upd MU (64 + un) a))), (p5, .inl (cI, 68, .inl MV))] := hD
          refine lv_aload_n hx hb d_M_stage_71 rfl (lv_at hl 0 rfl) ?_
          refine va_get (D := (dC, dI)) (ci := 8) (v := .ref p5) (C := "UpcastStreamsModel") (T := F_M) (N := 29) hx hb hts in_M hown hK hP 0 rfl rfl 7 (by decide) (hts _ uw_3_138) (fun _ h9 => h9) rfl d_M_stage_72 ?_
          refine lv_bipush (v := (64 : Int32)) hx hb d_M_stage_75 (by decide) ?_
          refine lv_aload_n hx hb d_M_stage_77 rfl (lv_at hl 0 rfl) ?_
          refine va_get (D := (dC, dI)) (ci := 8) (v := .int (nI un)) (C := "UpcastStreamsModel") (T := F_M) (N := 29) hx hb hts in_M hown hK hP 0 rfl rfl 8 (by decide) (hts _ uw_3_139) (fun _ h9 => h9) rfl d_M_stage_78 ?_
          refine lv_iadd hx hb d_M_stage_81 ?_
          refine us_top (show ((64 : Int32) + (nI un)) = (nI (64 + un)) from nI_add 64 un) ?_
          refine lv_iload hx hb d_M_stage_82 (lv_at hl 4 rfl) ?_
          refine us_iast (j := 64 + un) hx hb hK hP hD hS 4 0 rfl rfl (vp_in_nI (by omega) (by omega)) (nI_clamp (by omega)) d_M_stage_84 (fun H locs hP hD hS => ?_)
          have hP : va_P (dC, dI) vwCl [(mm, .inr (8, [.int mp, .int (0 : Int32), .int (nI n), .ref p1, .ref p2, .ref p3, .ref p4, .ref p5, .int (nI un), .ref p6, .ref p7, .ref p8, .int cm, .ref p9, .ref p10, .ref p11, .int ope, .ref p12, .ref p13, .ref p14, .ref p15, .ref p16, .ref p17, .ref p18, .ref p19, .ref p20, .ref p21, .int (nI he), .ref p22])), (p2, .inl (cI, 68, .inl (upd MT (64 + un) t))), (p3, .inl (cI, 68, .inl (upd MF (64 + un) f))), (p4, .inl (cI, 68, .inl (upd MU (64 + un) a))), (p5, .inl (cI, 68, .inl (upd MV (64 + un) b)))] H := hP
          have hD : va_D zA [(mm, .inr (8, [.int mp, .int (0 : Int32), .int (nI n), .ref p1, .ref p2, .ref p3, .ref p4, .ref p5, .int (nI un), .ref p6, .ref p7, .ref p8, .int cm, .ref p9, .ref p10, .ref p11, .int ope, .ref p12, .ref p13, .ref p14, .ref p15, .ref p16, .ref p17, .ref p18, .ref p19, .ref p20, .ref p21, .int (nI he), .ref p22])), (p2, .inl (cI, 68, .inl (upd MT (64 + un) t))), (p3, .inl (cI, 68, .inl (upd MF (64 + un) f))), (p4, .inl (cI, 68, .inl (upd MU (64 + un) a))), (p5, .inl (cI, 68, .inl (upd MV (64 + un) b)))] := hD
          refine lv_aload_n hx hb d_M_stage_85 rfl (lv_at hl 0 rfl) ?_
          refine lv_aload_n hx hb d_M_stage_86 rfl (lv_at hl 0 rfl) ?_
          refine va_get (D := (dC, dI)) (ci := 8) (v := .int (nI un)) (C := "UpcastStreamsModel") (T := F_M) (N := 29) hx hb hts in_M hown hK hP 0 rfl rfl 8 (by decide) (hts _ uw_3_139) (fun _ h9 => h9) rfl d_M_stage_87 ?_
          refine lv_iconst (v := (1 : Int32)) hx hb d_M_stage_90 (by decide) ?_
          refine lv_iadd hx hb d_M_stage_91 ?_
          refine us_top (show ((nI un) + (1 : Int32)) = (nI (un + 1)) from nI_1 un) ?_
          refine va_put (D := (dC, dI)) (ci := 8) (v := .int (nI (un + 1))) (ty := .int) (C := "UpcastStreamsModel") (T := F_M) (N := 29) hx hb hts in_M t_M t_M_ok n_M hown hK hP hD hS 0 rfl rfl 8 (by decide) (hts _ uw_3_139) (fun _ h9 => h9) rfl (by decide +kernel) rfl rfl (Nat.le_of_ble_eq_true rfl) d_M_stage_92 (fun H locs hP hD hS => ?_)
          have hP : va_P (dC, dI) vwCl [(mm, .inr (8, [.int mp, .int (0 : Int32), .int (nI n), .ref p1, .ref p2, .ref p3, .ref p4, .ref p5, .int (nI (un + 1)), .ref p6, .ref p7, .ref p8, .int cm, .ref p9, .ref p10, .ref p11, .int ope, .ref p12, .ref p13, .ref p14, .ref p15, .ref p16, .ref p17, .ref p18, .ref p19, .ref p20, .ref p21, .int (nI he), .ref p22])), (p2, .inl (cI, 68, .inl (upd MT (64 + un) t))), (p3, .inl (cI, 68, .inl (upd MF (64 + un) f))), (p4, .inl (cI, 68, .inl (upd MU (64 + un) a))), (p5, .inl (cI, 68, .inl (upd MV (64 + un) b)))] H := hP
          have hD : va_D zA [(mm, .inr (8, [.int mp, .int (0 : Int32), .int (nI n), .ref p1, .ref p2, .ref p3, .ref p4, .ref p5, .int (nI (un + 1)), .ref p6, .ref p7, .ref p8, .int cm, .ref p9, .ref p10, .ref p11, .int ope, .ref p12, .ref p13, .ref p14, .ref p15, .ref p16, .ref p17, .ref p18, .ref p19, .ref p20, .ref p21, .int (nI he), .ref p22])), (p2, .inl (cI, 68, .inl (upd MT (64 + un) t))), (p3, .inl (cI, 68, .inl (upd MF (64 + un) f))), (p4, .inl (cI, 68, .inl (upd MU (64 + un) a))), (p5, .inl (cI, 68, .inl (upd MV (64 + un) b)))] := hD
          refine lv_iconst (v := (1 : Int32)) hx hb d_M_stage_95 (by decide) ?_
          exact us_zret hQ (by decide) (by decide) hx hb hr hlk hK hS ((1 : Int32), upd MT (64 + un) t, upd MF (64 + un) f, upd MU (64 + un) a, upd MV (64 + un) b, un + 1) (by decide) rfl (⟨fun _ => ⟨rfl, by have z := us_mb_put hB hlt (t.toNatClampNeg, f.toNatClampNeg, a, b) hok; rw [hzt, hzf] at z; exact z, us_ml_hi hL (by omega) _ _ _ _, rfl⟩, fun q => absurd ⟨hlt, hvt, hf1, c27⟩ q⟩) hP hD d_M_stage_96
        · refine lv_iconst (v := (0 : Int32)) hx hb d_M_stage_30 (by decide) ?_
          exact us_zret hQ (by decide) (by decide) hx hb hr hlk hK hS ((0 : Int32), MT, MF, MU, MV, un) (by decide) rfl (⟨fun q => by first | exact absurd ((nI_eq (a := un) (b := 4) (by omega) (by omega)).mp c10) (by omega) | exact absurd q.2.1 (us_d0 w14 c17) | exact absurd q.2.2.1 (Int32.not_le.mpr c22) | exact absurd q.2.2.2 c27, fun _ => ⟨rfl, hB, hL, rfl⟩⟩) hP hD d_M_stage_31

set_option maxHeartbeats 4000000 in
set_option maxRecDepth 100000 in
theorem m_commit1 (zl : Launch) (dC : Nat → ClassId) (dI : Nat → Nat → Nat) (cI cL cS cR : ClassId) (mm : Nat) (p1 : Nat) (p2 : Nat) (p3 : Nat) (p4 : Nat) (p5 : Nat) (p6 : Nat) (p7 : Nat) (p8 : Nat) (p9 : Nat) (p10 : Nat) (p11 : Nat) (p12 : Nat) (p13 : Nat) (p14 : Nat) (p15 : Nat) (p16 : Nat) (p17 : Nat) (p18 : Nat) (p19 : Nat) (p20 : Nat) (p21 : Nat) (p22 : Nat) (mp : Int32) (co : Int32) (cm : Int32) (ope : Int32) (n : Nat) (un : Nat) (he : Nat) (MS : Nat → Int32) (MT : Nat → Int32) (MF : Nat → Int32) (MU : Nat → Int32) (MV : Nat → Int32) (es : List us_Ev) (st : Nat → Nat) (y : Int32) (w : Int32) (hL : us_ml MS MT MF MU MV n es st) (hbad : ¬ ((0 ≤ y ∧ y < 8) ∧ ¬ nI un = 0)) : us_Met (S := Unit) zl y_M_commit w_M_commit ({ frames := 1, cells := 0, slots := 0, locals := 23 }) (dC, dI) vwCl (us_ty cI cL cS cR) [.ref mm, .int y, .int w] [(mm, .inr (8, [.int mp, .int co, .int (nI n), .ref p1, .ref p2, .ref p3, .ref p4, .ref p5, .int (nI un), .ref p6, .ref p7, .ref p8, .int cm, .ref p9, .ref p10, .ref p11, .int ope, .ref p12, .ref p13, .ref p14, .ref p15, .ref p16, .ref p17, .ref p18, .ref p19, .ref p20, .ref p21, .int (nI he), .ref p22])), (p1, .inl (cI, 64, .inl MS)), (p2, .inl (cI, 68, .inl MT)), (p3, .inl (cI, 68, .inl MF)), (p4, .inl (cI, 68, .inl MU)), (p5, .inl (cI, 68, .inl MV))] (fun u => some (.int (0 : Int32))) (fun u => True) (fun u => [(mm, .inr (8, [.int mp, .int (1 : Int32), .int (nI n), .ref p1, .ref p2, .ref p3, .ref p4, .ref p5, .int (nI un), .ref p6, .ref p7, .ref p8, .int cm, .ref p9, .ref p10, .ref p11, .int ope, .ref p12, .ref p13, .ref p14, .ref p15, .ref p16, .ref p17, .ref p18, .ref p19, .ref p20, .ref p21, .int (nI he), .ref p22])), (p1, .inl (cI, 64, .inl MS)), (p2, .inl (cI, 68, .inl MT)), (p3, .inl (cI, 68, .inl MF)), (p4, .inl (cI, 68, .inl MU)), (p5, .inl (cI, 68, .inl MV))]) := by
  refine us_ofW (cc := b_M_commit) (maxL := 6) (ret := (some .int)) (by decide) (Nat.le_of_ble_eq_true rfl) ?_
  intro zp ze zs zm args below meth zc zA ls zQ hQ hx hb hr hml hts hown hlk hin hl hK hP hD hS hA
  have hown : zs.vm.findClass "UpcastStreamsModel" = some zm.cls := hown
  have hl : lv_has ls 6 [(0, .ref mm), (1, .int y), (2, .int w)] := hl
  obtain ⟨H, hH⟩ : ∃ H, H = zs.heap := ⟨_, rfl⟩
  rw [← hH] at hP ⊢
  have hS : va_S zA zs.heap H [] := hH ▸ hS
  generalize ([] : List Loc) = locs at hS ⊢
  refine lv_iload_n hx hb d_M_commit_0 rfl (lv_at hl 1 rfl) ?_
  refine us_callRS (As := [.int y]) (rest := []) ⟨hx, hb, hml, hown, hts⟩ (m_isStream zl dC dI cI cL cS cR y ) ⟨callB_of 1 hts (us_gC k_M_isStream) rfl rfl rfl (hts _ uw_1_10) (hts _ uw_3_239) h_M_isStream.2 ⟨by decide, by decide⟩, (hts _ uw_4_0)⟩ hK hP hS hA [] rfl rfl hl.1 rfl (Nat.le_of_ble_eq_true rfl) d_M_commit_1 ⟨by decide, by decide⟩ (fun u H locs w1 hP hS => ?_)
  obtain ⟨r1, rfl⟩ : ∃ z, z = u := ⟨_, rfl⟩
  try dsimp only at w1
  refine W.eq (g2 := F0 zm 4 ls [.int r1]) rfl ?_
  refine lv_if_eq (tgt := 18) hx hb d_M_commit_4 (by decide) (fun c4 => ?_) (fun c4 => ?_)
  · refine lv_iconst (v := (0 : Int32)) hx hb d_M_commit_18 (by decide) ?_
    refine lv_istore_n (lv' := [(3, .int (0 : Int32)), (0, .ref mm), (1, .int y), (2, .int w)]) hx hb d_M_commit_19 rfl hl (by decide) rfl (fun ls hl => ?_)
    refine lv_aload_n hx hb d_M_commit_20 rfl (lv_at hl 1 rfl) ?_
    refine lv_iload_n hx hb d_M_commit_21 rfl (lv_at hl 2 rfl) ?_
    refine us_cV (q0 := 0) (As := [.int y]) (rest := []) (N2 := 6) (fun u => [(mm, .inr (8, [.int mp, .int co, .int (nI n), .ref p1, .ref p2, .ref p3, .ref p4, .ref p5, .int (nI un), .ref p6, .ref p7, .ref p8, .int cm, .ref p9, .ref p10, .ref p11, .int ope, .ref p12, .ref p13, .ref p14, .ref p15, .ref p16, .ref p17, .ref p18, .ref p19, .ref p20, .ref p21, .int (nI he), .ref p22])), (p1, .inl (cI, 64, .inl MS)), (p2, .inl (cI, 68, .inl MT)), (p3, .inl (cI, 68, .inl MF)), (p4, .inl (cI, 68, .inl MU)), (p5, .inl (cI, 68, .inl MV))]) ⟨hx, hb, hml, hown, hts⟩ (m_versionOf zl dC dI cI cL cS cR mm p1 p2 p3 p4 p5 p6 p7 p8 p9 p10 p11 p12 p13 p14 p15 p16 p17 p18 p19 p20 p21 p22 mp co cm ope n un he MS st y hL.2.2.2.1 hL.2.2.1) (cwV 1 hts (us_gV uw_4_2 uw_4_4 uw_p_12 uw_1_10 k_M_versionOf) rfl rfl rfl h_M_versionOf ⟨by decide, by decide⟩) hK hP hD hS hA [0, 1] [0, 1] [2, 3, 4, 5] rfl (by decide) (fun _ => rfl) [(p2, .inl (cI, 68, .inl MT)), (p3, .inl (cI, 68, .inl MF)), (p4, .inl (cI, 68, .inl MU)), (p5, .inl (cI, 68, .inl MV))] (fun _ => rfl) rfl (fun _ => rfl) (by decide) (by decide) rfl rfl rfl hl.1 rfl (Nat.le_of_ble_eq_true rfl) d_M_commit_22 ⟨by decide, by decide⟩ (fun u H locs w22 hP hD hS => ?_)
    obtain ⟨rv, rfl⟩ : ∃ z, z = u := ⟨_, rfl⟩
    have hP : va_P (dC, dI) vwCl [(mm, .inr (8, [.int mp, .int co, .int (nI n), .ref p1, .ref p2, .ref p3, .ref p4, .ref p5, .int (nI un), .ref p6, .ref p7, .ref p8, .int cm, .ref p9, .ref p10, .ref p11, .int ope, .ref p12, .ref p13, .ref p14, .ref p15, .ref p16, .ref p17, .ref p18, .ref p19, .ref p20, .ref p21, .int (nI he), .ref p22])), (p1, .inl (cI, 64, .inl MS)), (p2, .inl (cI, 68, .inl MT)), (p3, .inl (cI, 68, .inl MF)), (p4, .inl (cI, 68, .inl MU)), (p5, .inl (cI, 68, .inl MV))] H := hP
    have hD : va_D zA [(mm, .inr (8, [.int mp, .int co, .int (nI n), .ref p1, .ref p2, .ref p3, .ref p4, .ref p5, .int (nI un), .ref p6, .ref p7, .ref p8, .int cm, .ref p9, .ref p10, .ref p11, .int ope, .ref p12, .ref p13, .ref p14, .ref p15, .ref p16, .ref p17, .ref p18, .ref p19, .ref p20, .ref p21, .int (nI he), .ref p22])), (p1, .inl (cI, 64, .inl MS)), (p2, .inl (cI, 68, .inl MT)), (p3, .inl (cI, 68, .inl MF)), (p4, .inl (cI, 68, .inl MU)), (p5, .inl (cI, 68, .inl MV))] := hD
    try dsimp only at w22
    refine W.eq (g2 := F0 zm 25 ls [.int (nI rv)]) rfl ?_
    refine lv_istore (lv' := [(4, .int (nI rv)), (3, .int (0 : Int32)), (0, .ref mm), (1, .int y), (2, .int w)]) hx hb d_M_commit_25 hl (by decide) rfl (fun ls hl => ?_)
    refine lv_aload_n hx hb d_M_commit_27 rfl (lv_at hl 2 rfl) ?_
    refine lv_iload_n hx hb d_M_commit_28 rfl (lv_at hl 1 rfl) ?_
    refine lv_if_ne (tgt := 36) hx hb d_M_commit_29 (by decide) (fun h => absurd h (by decide)) (fun c2 => ?_)
    refine lv_iconst (v := (1 : Int32)) hx hb d_M_commit_32 (by decide) ?_
    refine lv_goto (tgt := 70) hx hb d_M_commit_33 (by decide) ?_
    refine va_put (D := (dC, dI)) (ci := 8) (v := .int (1 : Int32)) (ty := .int) (C := "UpcastStreamsModel") (T := F_M) (N := 29) hx hb hts in_M t_M t_M_ok n_M hown hK hP hD hS 0 rfl rfl 1 (by decide) (hts _ uw_3_132) (fun _ h9 => h9) rfl (by decide +kernel) rfl rfl (Nat.le_of_ble_eq_true rfl) d_M_commit_70 (fun H locs hP hD hS => ?_)
    have hP : va_P (dC, dI) vwCl [(mm, .inr (8, [.int mp, .int (1 : Int32), .int (nI n), .ref p1, .ref p2, .ref p3, .ref p4, .ref p5, .int (nI un), .ref p6, .ref p7, .ref p8, .int cm, .ref p9, .ref p10, .ref p11, .int ope, .ref p12, .ref p13, .ref p14, .ref p15, .ref p16, .ref p17, .ref p18, .ref p19, .ref p20, .ref p21, .int (nI he), .ref p22])), (p1, .inl (cI, 64, .inl MS)), (p2, .inl (cI, 68, .inl MT)), (p3, .inl (cI, 68, .inl MF)), (p4, .inl (cI, 68, .inl MU)), (p5, .inl (cI, 68, .inl MV))] H := hP
    have hD : va_D zA [(mm, .inr (8, [.int mp, .int (1 : Int32), .int (nI n), .ref p1, .ref p2, .ref p3, .ref p4, .ref p5, .int (nI un), .ref p6, .ref p7, .ref p8, .int cm, .ref p9, .ref p10, .ref p11, .int ope, .ref p12, .ref p13, .ref p14, .ref p15, .ref p16, .ref p17, .ref p18, .ref p19, .ref p20, .ref p21, .int (nI he), .ref p22])), (p1, .inl (cI, 64, .inl MS)), (p2, .inl (cI, 68, .inl MT)), (p3, .inl (cI, 68, .inl MF)), (p4, .inl (cI, 68, .inl MU)), (p5, .inl (cI, 68, .inl MV))] := hD
    refine lv_aload_n hx hb d_M_commit_73 rfl (lv_at hl 2 rfl) ?_
    refine va_get (D := (dC, dI)) (ci := 8) (v := .int (1 : Int32)) (C := "UpcastStreamsModel") (T := F_M) (N := 29) hx hb hts in_M hown hK hP 0 rfl rfl 1 (by decide) (hts _ uw_3_132) (fun _ h9 => h9) rfl d_M_commit_74 ?_
    refine lv_if_le (tgt := 82) hx hb d_M_commit_77 (by decide) (fun h => absurd h (by decide)) (fun c3 => ?_)
    refine lv_iconst (v := (0 : Int32)) hx hb d_M_commit_80 (by decide) ?_
    exact us_iret hQ (by decide) (by decide) hx hb hr hlk hK hS () rfl (by simp) hP hD d_M_commit_81
  · refine lv_aload_n hx hb d_M_commit_7 rfl (lv_at hl 0 rfl) ?_
    refine va_get (D := (dC, dI)) (ci := 8) (v := .int (nI un)) (C := "UpcastStreamsModel") (T := F_M) (N := 29) hx hb hts in_M hown hK hP 0 rfl rfl 8 (by decide) (hts _ uw_3_139) (fun _ h9 => h9) rfl d_M_commit_8 ?_
    refine lv_if_le (tgt := 18) hx hb d_M_commit_11 (by decide) (fun c4 => ?_) (fun h => absurd ⟨us_d1 w1 c4, fun z => h (by rw [z]; decide)⟩ hbad)
    refine lv_iconst (v := (0 : Int32)) hx hb d_M_commit_18 (by decide) ?_
    refine lv_istore_n (lv' := [(3, .int (0 : Int32)), (0, .ref mm), (1, .int y), (2, .int w)]) hx hb d_M_commit_19 rfl hl (by decide) rfl (fun ls hl => ?_)
    refine lv_aload_n hx hb d_M_commit_20 rfl (lv_at hl 1 rfl) ?_
    refine lv_iload_n hx hb d_M_commit_21 rfl (lv_at hl 2 rfl) ?_
    refine us_cV (q0 := 0) (As := [.int y]) (rest := []) (N2 := 6) (fun u => [(mm, .inr (8, [.int mp, .int co, .int (nI n), .ref p1, .ref p2, .ref p3, .ref p4, .ref p5, .int (nI un), .ref p6, .ref p7, .ref p8, .int cm, .ref p9, .ref p10, .ref p11, .int ope, .ref p12, .ref p13, .ref p14, .ref p15, .ref p16, .ref p17, .ref p18, .ref p19, .ref p20, .ref p21, .int (nI he), .ref p22])), (p1, .inl (cI, 64, .inl MS)), (p2, .inl (cI, 68, .inl MT)), (p3, .inl (cI, 68, .inl MF)), (p4, .inl (cI, 68, .inl MU)), (p5, .inl (cI, 68, .inl MV))]) ⟨hx, hb, hml, hown, hts⟩ (m_versionOf zl dC dI cI cL cS cR mm p1 p2 p3 p4 p5 p6 p7 p8 p9 p10 p11 p12 p13 p14 p15 p16 p17 p18 p19 p20 p21 p22 mp co cm ope n un he MS st y hL.2.2.2.1 hL.2.2.1) (cwV 1 hts (us_gV uw_4_2 uw_4_4 uw_p_12 uw_1_10 k_M_versionOf) rfl rfl rfl h_M_versionOf ⟨by decide, by decide⟩) hK hP hD hS hA [0, 1] [0, 1] [2, 3, 4, 5] rfl (by decide) (fun _ => rfl) [(p2, .inl (cI, 68, .inl MT)), (p3, .inl (cI, 68, .inl MF)), (p4, .inl (cI, 68, .inl MU)), (p5, .inl (cI, 68, .inl MV))] (fun _ => rfl) rfl (fun _ => rfl) (by decide) (by decide) rfl rfl rfl hl.1 rfl (Nat.le_of_ble_eq_true rfl) d_M_commit_22 ⟨by decide, by decide⟩ (fun u H locs w22 hP hD hS => ?_)
    obtain ⟨rv, rfl⟩ : ∃ z, z = u := ⟨_, rfl⟩
    have hP : va_P (dC, dI) vwCl [(mm, .inr (8, [.int mp, .int co, .int (nI n), .ref p1, .ref p2, .ref p3, .ref p4, .ref p5, .int (nI un), .ref p6, .ref p7, .ref p8, .int cm, .ref p9, .ref p10, .ref p11, .int ope, .ref p12, .ref p13, .ref p14, .ref p15, .ref p16, .ref p17, .ref p18, .ref p19, .ref p20, .ref p21, .int (nI he), .ref p22])), (p1, .inl (cI, 64, .inl MS)), (p2, .inl (cI, 68, .inl MT)), (p3, .inl (cI, 68, .inl MF)), (p4, .inl (cI, 68, .inl MU)), (p5, .inl (cI, 68, .inl MV))] H := hP
    have hD : va_D zA [(mm, .inr (8, [.int mp, .int co, .int (nI n), .ref p1, .ref p2, .ref p3, .ref p4, .ref p5, .int (nI un), .ref p6, .ref p7, .ref p8, .int cm, .ref p9, .ref p10, .ref p11, .int ope, .ref p12, .ref p13, .ref p14, .ref p15, .ref p16, .ref p17, .ref p18, .ref p19, .ref p20, .ref p21, .int (nI he), .ref p22])), (p1, .inl (cI, 64, .inl MS)), (p2, .inl (cI, 68, .inl MT)), (p3, .inl (cI, 68, .inl MF)), (p4, .inl (cI, 68, .inl MU)), (p5, .inl (cI, 68, .inl MV))] := hD
    try dsimp only at w22
    refine W.eq (g2 := F0 zm 25 ls [.int (nI rv)]) rfl ?_
    refine lv_istore (lv' := [(4, .int (nI rv)), (3, .int (0 : Int32)), (0, .ref mm), (1, .int y), (2, .int w)]) hx hb d_M_commit_25 hl (by decide) rfl (fun ls hl => ?_)
    refine lv_aload_n hx hb d_M_commit_27 rfl (lv_at hl 2 rfl) ?_
    refine lv_iload_n hx hb d_M_commit_28 rfl (lv_at hl 1 rfl) ?_
    refine lv_if_ne (tgt := 36) hx hb d_M_commit_29 (by decide) (fun h => absurd h (by decide)) (fun c5 => ?_)
    refine lv_iconst (v := (1 : Int32)) hx hb d_M_commit_32 (by decide) ?_
    refine lv_goto (tgt := 70) hx hb d_M_commit_33 (by decide) ?_
    refine va_put (D := (dC, dI)) (ci := 8) (v := .int (1 : Int32)) (ty := .int) (C := "UpcastStreamsModel") (T := F_M) (N := 29) hx hb hts in_M t_M t_M_ok n_M hown hK hP hD hS 0 rfl rfl 1 (by decide) (hts _ uw_3_132) (fun _ h9 => h9) rfl (by decide +kernel) rfl rfl (Nat.le_of_ble_eq_true rfl) d_M_commit_70 (fun H locs hP hD hS => ?_)
    have hP : va_P (dC, dI) vwCl [(mm, .inr (8, [.int mp, .int (1 : Int32), .int (nI n), .ref p1, .ref p2, .ref p3, .ref p4, .ref p5, .int (nI un), .ref p6, .ref p7, .ref p8, .int cm, .ref p9, .ref p10, .ref p11, .int ope, .ref p12, .ref p13, .ref p14, .ref p15, .ref p16, .ref p17, .ref p18, .ref p19, .ref p20, .ref p21, .int (nI he), .ref p22])), (p1, .inl (cI, 64, .inl MS)), (p2, .inl (cI, 68, .inl MT)), (p3, .inl (cI, 68, .inl MF)), (p4, .inl (cI, 68, .inl MU)), (p5, .inl (cI, 68, .inl MV))] H := hP
    have hD : va_D zA [(mm, .inr (8, [.int mp, .int (1 : Int32), .int (nI n), .ref p1, .ref p2, .ref p3, .ref p4, .ref p5, .int (nI un), .ref p6, .ref p7, .ref p8, .int cm, .ref p9, .ref p10, .ref p11, .int ope, .ref p12, .ref p13, .ref p14, .ref p15, .ref p16, .ref p17, .ref p18, .ref p19, .ref p20, .ref p21, .int (nI he), .ref p22])), (p1, .inl (cI, 64, .inl MS)), (p2, .inl (cI, 68, .inl MT)), (p3, .inl (cI, 68, .inl MF)), (p4, .inl (cI, 68, .inl MU)), (p5, .inl (cI, 68, .inl MV))] := hD
    refine lv_aload_n hx hb d_M_commit_73 rfl (lv_at hl 2 rfl) ?_
    refine va_get (D := (dC, dI)) (ci := 8) (v := .int (1 : Int32)) (C := "UpcastStreamsModel") (T := F_M) (N := 29) hx hb hts in_M hown hK hP 0 rfl rfl 1 (by decide) (hts _ uw_3_132) (fun _ h9 => h9) rfl d_M_commit_74 ?_
    refine lv_if_le (tgt := 82) hx hb d_M_commit_77 (by decide) (fun h => absurd h (by decide)) (fun c6 => ?_)
    refine lv_iconst (v := (0 : Int32)) hx hb d_M_commit_80 (by decide) ?_
    exact us_iret hQ (by decide) (by decide) hx hb hr hlk hK hS () rfl (by simp) hP hD d_M_commit_81

set_option maxHeartbeats 4000000 in
set_option maxRecDepth 100000 in
theorem m_commit2 (zl : Launch) (dC : Nat → ClassId) (dI : Nat → Nat → Nat) (cI cL cS cR : ClassId) (mm : Nat) (p1 : Nat) (p2 : Nat) (p3 : Nat) (p4 : Nat) (p5 : Nat) (p6 : Nat) (p7 : Nat) (p8 : Nat) (p9 : Nat) (p10 : Nat) (p11 : Nat) (p12 : Nat) (p13 : Nat) (p14 : Nat) (p15 : Nat) (p16 : Nat) (p17 : Nat) (p18 : Nat) (p19 : Nat) (p20 : Nat) (p21 : Nat) (p22 : Nat) (mp : Int32) (co : Int32) (cm : Int32) (ope : Int32) (n : Nat) (un : Nat) (he : Nat) (MS : Nat → Int32) (MT : Nat → Int32) (MF : Nat → Int32) (MU : Nat → Int32) (MV : Nat → Int32) (es : List us_Ev) (st : Nat → Nat) (j : Nat) (w : Int32) (hL : us_ml MS MT MF MU MV n es st) (hj : j < 8) (hun : 0 < un) (hun4 : un ≤ 4) (hw1 : ¬ w = -1) (hw2 : ¬ w = nI (us_num st j n)) : us_Met (S := Unit) zl y_M_commit w_M_commit ({ frames := 1, cells := 0, slots := 0, locals := 23 }) (dC, dI) vwCl (us_ty cI cL cS cR) [.ref mm, .int (nI j), .int w] [(mm, .inr (8, [.int mp, .int co, .int (nI n), .ref p1, .ref p2, .ref p3, .ref p4, .ref p5, .int (nI un), .ref p6, .ref p7, .ref p8, .int cm, .ref p9, .ref p10, .ref p11, .int ope, .ref p12, .ref p13, .ref p14, .ref p15, .ref p16, .ref p17, .ref p18, .ref p19, .ref p20, .ref p21, .int (nI he), .ref p22])), (p1, .inl (cI, 64, .inl MS)), (p2, .inl (cI, 68, .inl MT)), (p3, .inl (cI, 68, .inl MF)), (p4, .inl (cI, 68, .inl MU)), (p5, .inl (cI, 68, .inl MV))] (fun u => some (.int (0 : Int32))) (fun u => True) (fun u => [(mm, .inr (8, [.int mp, .int (2 : Int32), .int (nI n), .ref p1, .ref p2, .ref p3, .ref p4, .ref p5, .int (nI un), .ref p6, .ref p7, .ref p8, .int cm, .ref p9, .ref p10, .ref p11, .int ope, .ref p12, .ref p13, .ref p14, .ref p15, .ref p16, .ref p17, .ref p18, .ref p19, .ref p20, .ref p21, .int (nI he), .ref p22])), (p1, .inl (cI, 64, .inl MS)), (p2, .inl (cI, 68, .inl MT)), (p3, .inl (cI, 68, .inl MF)), (p4, .inl (cI, 68, .inl MU)), (p5, .inl (cI, 68, .inl MV))]) := by
  refine us_ofW (cc := b_M_commit) (maxL := 6) (ret := (some .int)) (by decide) (Nat.le_of_ble_eq_true rfl) ?_
  intro zp ze zs zm args below meth zc zA ls zQ hQ hx hb hr hml hts hown hlk hin hl hK hP hD hS hA
  have hown : zs.vm.findClass "UpcastStreamsModel" = some zm.cls := hown
  have hl : lv_has ls 6 [(0, .ref mm), (1, .int (nI j)), (2, .int w)] := hl
  obtain ⟨H, hH⟩ : ∃ H, H = zs.heap := ⟨_, rfl⟩
  rw [← hH] at hP ⊢
  have hS : va_S zA zs.heap H [] := hH ▸ hS
  generalize ([] : List Loc) = locs at hS ⊢
  refine lv_iload_n hx hb d_M_commit_0 rfl (lv_at hl 1 rfl) ?_
  refine us_callRS (As := [.int (nI j)]) (rest := []) ⟨hx, hb, hml, hown, hts⟩ (m_isStream zl dC dI cI cL cS cR (nI j) ) ⟨callB_of 1 hts (us_gC k_M_isStream) rfl rfl rfl (hts _ uw_1_10) (hts _ uw_3_239) h_M_isStream.2 ⟨by decide, by decide⟩, (hts _ uw_4_0)⟩ hK hP hS hA [] rfl rfl hl.1 rfl (Nat.le_of_ble_eq_true rfl) d_M_commit_1 ⟨by decide, by decide⟩ (fun u H locs w1 hP hS => ?_)
  obtain ⟨r1, rfl⟩ : ∃ z, z = u := ⟨_, rfl⟩
  try dsimp only at w1
  refine W.eq (g2 := F0 zm 4 ls [.int r1]) rfl ?_
  refine lv_if_eq (tgt := 18) hx hb d_M_commit_4 (by decide) (fun h => absurd ⟨nI_pos' (by omega), nI_lt (b := 8) hj (by omega)⟩ (us_d0 w1 h)) (fun c1 => ?_)
  refine lv_aload_n hx hb d_M_commit_7 rfl (lv_at hl 0 rfl) ?_
  refine va_get (D := (dC, dI)) (ci := 8) (v := .int (nI un)) (C := "UpcastStreamsModel") (T := F_M) (N := 29) hx hb hts in_M hown hK hP 0 rfl rfl 8 (by decide) (hts _ uw_3_139) (fun _ h9 => h9) rfl d_M_commit_8 ?_
  refine lv_if_le (tgt := 18) hx hb d_M_commit_11 (by decide) (fun h => absurd (us_le0 (a := un) (by omega) h) (by omega)) (fun c2 => ?_)
  refine lv_iconst (v := (1 : Int32)) hx hb d_M_commit_14 (by decide) ?_
  refine lv_goto (tgt := 19) hx hb d_M_commit_15 (by decide) ?_
  refine lv_istore_n (lv' := [(3, .int (1 : Int32)), (0, .ref mm), (1, .int (nI j)), (2, .int w)]) hx hb d_M_commit_19 rfl hl (by decide) rfl (fun ls hl => ?_)
  refine lv_aload_n hx hb d_M_commit_20 rfl (lv_at hl 1 rfl) ?_
  refine lv_iload_n hx hb d_M_commit_21 rfl (lv_at hl 2 rfl) ?_
  refine us_cV (q0 := 0) (As := [.int (nI j)]) (rest := []) (N2 := 6) (fun u => [(mm, .inr (8, [.int mp, .int co, .int (nI n), .ref p1, .ref p2, .ref p3, .ref p4, .ref p5, .int (nI un), .ref p6, .ref p7, .ref p8, .int cm, .ref p9, .ref p10, .ref p11, .int ope, .ref p12, .ref p13, .ref p14, .ref p15, .ref p16, .ref p17, .ref p18, .ref p19, .ref p20, .ref p21, .int (nI he), .ref p22])), (p1, .inl (cI, 64, .inl MS)), (p2, .inl (cI, 68, .inl MT)), (p3, .inl (cI, 68, .inl MF)), (p4, .inl (cI, 68, .inl MU)), (p5, .inl (cI, 68, .inl MV))]) ⟨hx, hb, hml, hown, hts⟩ (m_versionOf zl dC dI cI cL cS cR mm p1 p2 p3 p4 p5 p6 p7 p8 p9 p10 p11 p12 p13 p14 p15 p16 p17 p18 p19 p20 p21 p22 mp co cm ope n un he MS st (nI j) hL.2.2.2.1 hL.2.2.1) (cwV 1 hts (us_gV uw_4_2 uw_4_4 uw_p_12 uw_1_10 k_M_versionOf) rfl rfl rfl h_M_versionOf ⟨by decide, by decide⟩) hK hP hD hS hA [0, 1] [0, 1] [2, 3, 4, 5] rfl (by decide) (fun _ => rfl) [(p2, .inl (cI, 68, .inl MT)), (p3, .inl (cI, 68, .inl MF)), (p4, .inl (cI, 68, .inl MU)), (p5, .inl (cI, 68, .inl MV))] (fun _ => rfl) rfl (fun _ => rfl) (by decide) (by decide) rfl rfl rfl hl.1 rfl (Nat.le_of_ble_eq_true rfl) d_M_commit_22 ⟨by decide, by decide⟩ (fun u H locs w22 hP hD hS => ?_)
  obtain ⟨rv, rfl⟩ : ∃ z, z = u := ⟨_, rfl⟩
  have hP : va_P (dC, dI) vwCl [(mm, .inr (8, [.int mp, .int co, .int (nI n), .ref p1, .ref p2, .ref p3, .ref p4, .ref p5, .int (nI un), .ref p6, .ref p7, .ref p8, .int cm, .ref p9, .ref p10, .ref p11, .int ope, .ref p12, .ref p13, .ref p14, .ref p15, .ref p16, .ref p17, .ref p18, .ref p19, .ref p20, .ref p21, .int (nI he), .ref p22])), (p1, .inl (cI, 64, .inl MS)), (p2, .inl (cI, 68, .inl MT)), (p3, .inl (cI, 68, .inl MF)), (p4, .inl (cI, 68, .inl MU)), (p5, .inl (cI, 68, .inl MV))] H := hP
  have hD : va_D zA [(mm, .inr (8, [.int mp, .int co, .int (nI n), .ref p1, .ref p2, .ref p3, .ref p4, .ref p5, .int (nI un), .ref p6, .ref p7, .ref p8, .int cm, .ref p9, .ref p10, .ref p11, .int ope, .ref p12, .ref p13, .ref p14, .ref p15, .ref p16, .ref p17, .ref p18, .ref p19, .ref p20, .ref p21, .int (nI he), .ref p22])), (p1, .inl (cI, 64, .inl MS)), (p2, .inl (cI, 68, .inl MT)), (p3, .inl (cI, 68, .inl MF)), (p4, .inl (cI, 68, .inl MU)), (p5, .inl (cI, 68, .inl MV))] := hD
  try dsimp only at w22
  refine W.eq (g2 := F0 zm 25 ls [.int (nI rv)]) rfl ?_
  refine us_top (show (nI rv) = (nI (us_num st j n)) from by rw [w22.2 j hj rfl]) ?_
  refine lv_istore (lv' := [(4, .int (nI (us_num st j n))), (3, .int (1 : Int32)), (0, .ref mm), (1, .int (nI j)), (2, .int w)]) hx hb d_M_commit_25 hl (by decide) rfl (fun ls hl => ?_)
  refine lv_aload_n hx hb d_M_commit_27 rfl (lv_at hl 2 rfl) ?_
  refine lv_iload_n hx hb d_M_commit_28 rfl (lv_at hl 1 rfl) ?_
  refine lv_if_ne (tgt := 36) hx hb d_M_commit_29 (by decide) (fun c3 => ?_) (fun h => absurd h (by decide))
  refine lv_iload_n hx hb d_M_commit_36 rfl (lv_at hl 4 rfl) ?_
  refine lv_iconst (v := (-1 : Int32)) hx hb d_M_commit_37 (by decide) ?_
  refine lv_icmp_eq (tgt := 51) hx hb d_M_commit_38 (by decide) (fun h => absurd h hw1) (fun c4 => ?_)
  refine lv_iload_n hx hb d_M_commit_41 rfl (lv_at hl 4 rfl) ?_
  refine lv_iload hx hb d_M_commit_42 (lv_at hl 0 rfl) ?_
  refine lv_icmp_eq (tgt := 51) hx hb d_M_commit_44 (by decide) (fun h => absurd h hw2) (fun c5 => ?_)
  refine lv_iconst (v := (2 : Int32)) hx hb d_M_commit_47 (by decide) ?_
  refine lv_goto (tgt := 70) hx hb d_M_commit_48 (by decide) ?_
  refine va_put (D := (dC, dI)) (ci := 8) (v := .int (2 : Int32)) (ty := .int) (C := "UpcastStreamsModel") (T := F_M) (N := 29) hx hb hts in_M t_M t_M_ok n_M hown hK hP hD hS 0 rfl rfl 1 (by decide) (hts _ uw_3_132) (fun _ h9 => h9) rfl (by decide +kernel) rfl rfl (Nat.le_of_ble_eq_true rfl) d_M_commit_70 (fun H locs hP hD hS => ?_)
  have hP : va_P (dC, dI) vwCl [(mm, .inr (8, [.int mp, .int (2 : Int32), .int (nI n), .ref p1, .ref p2, .ref p3, .ref p4, .ref p5, .int (nI un), .ref p6, .ref p7, .ref p8, .int cm, .ref p9, .ref p10, .ref p11, .int ope, .ref p12, .ref p13, .ref p14, .ref p15, .ref p16, .ref p17, .ref p18, .ref p19, .ref p20, .ref p21, .int (nI he), .ref p22])), (p1, .inl (cI, 64, .inl MS)), (p2, .inl (cI, 68, .inl MT)), (p3, .inl (cI, 68, .inl MF)), (p4, .inl (cI, 68, .inl MU)), (p5, .inl (cI, 68, .inl MV))] H := hP
  have hD : va_D zA [(mm, .inr (8, [.int mp, .int (2 : Int32), .int (nI n), .ref p1, .ref p2, .ref p3, .ref p4, .ref p5, .int (nI un), .ref p6, .ref p7, .ref p8, .int cm, .ref p9, .ref p10, .ref p11, .int ope, .ref p12, .ref p13, .ref p14, .ref p15, .ref p16, .ref p17, .ref p18, .ref p19, .ref p20, .ref p21, .int (nI he), .ref p22])), (p1, .inl (cI, 64, .inl MS)), (p2, .inl (cI, 68, .inl MT)), (p3, .inl (cI, 68, .inl MF)), (p4, .inl (cI, 68, .inl MU)), (p5, .inl (cI, 68, .inl MV))] := hD
  refine lv_aload_n hx hb d_M_commit_73 rfl (lv_at hl 2 rfl) ?_
  refine va_get (D := (dC, dI)) (ci := 8) (v := .int (2 : Int32)) (C := "UpcastStreamsModel") (T := F_M) (N := 29) hx hb hts in_M hown hK hP 0 rfl rfl 1 (by decide) (hts _ uw_3_132) (fun _ h9 => h9) rfl d_M_commit_74 ?_
  refine lv_if_le (tgt := 82) hx hb d_M_commit_77 (by decide) (fun h => absurd h (by decide)) (fun c6 => ?_)
  refine lv_iconst (v := (0 : Int32)) hx hb d_M_commit_80 (by decide) ?_
  exact us_iret hQ (by decide) (by decide) hx hb hr hlk hK hS () rfl (by simp) hP hD d_M_commit_81

set_option maxHeartbeats 4000000 in
set_option maxRecDepth 100000 in
theorem m_commit3 (zl : Launch) (dC : Nat → ClassId) (dI : Nat → Nat → Nat) (cI cL cS cR : ClassId) (mm : Nat) (p1 : Nat) (p2 : Nat) (p3 : Nat) (p4 : Nat) (p5 : Nat) (p6 : Nat) (p7 : Nat) (p8 : Nat) (p9 : Nat) (p10 : Nat) (p11 : Nat) (p12 : Nat) (p13 : Nat) (p14 : Nat) (p15 : Nat) (p16 : Nat) (p17 : Nat) (p18 : Nat) (p19 : Nat) (p20 : Nat) (p21 : Nat) (p22 : Nat) (mp : Int32) (co : Int32) (cm : Int32) (ope : Int32) (n : Nat) (un : Nat) (he : Nat) (MS : Nat → Int32) (MT : Nat → Int32) (MF : Nat → Int32) (MU : Nat → Int32) (MV : Nat → Int32) (es : List us_Ev) (st : Nat → Nat) (j : Nat) (w : Int32) (hL : us_ml MS MT MF MU MV n es st) (hj : j < 8) (hun : 0 < un) (hun4 : un ≤ 4) (hw : w = -1 ∨ w = nI (us_num st j n)) (hfull : 64 < n + un) : us_Met (S := Unit) zl y_M_commit w_M_commit ({ frames := 1, cells := 0, slots := 0, locals := 23 }) (dC, dI) vwCl (us_ty cI cL cS cR) [.ref mm, .int (nI j), .int w] [(mm, .inr (8, [.int mp, .int co, .int (nI n), .ref p1, .ref p2, .ref p3, .ref p4, .ref p5, .int (nI un), .ref p6, .ref p7, .ref p8, .int cm, .ref p9, .ref p10, .ref p11, .int ope, .ref p12, .ref p13, .ref p14, .ref p15, .ref p16, .ref p17, .ref p18, .ref p19, .ref p20, .ref p21, .int (nI he), .ref p22])), (p1, .inl (cI, 64, .inl MS)), (p2, .inl (cI, 68, .inl MT)), (p3, .inl (cI, 68, .inl MF)), (p4, .inl (cI, 68, .inl MU)), (p5, .inl (cI, 68, .inl MV))] (fun u => some (.int (0 : Int32))) (fun u => True) (fun u => [(mm, .inr (8, [.int mp, .int (3 : Int32), .int (nI n), .ref p1, .ref p2, .ref p3, .ref p4, .ref p5, .int (nI un), .ref p6, .ref p7, .ref p8, .int cm, .ref p9, .ref p10, .ref p11, .int ope, .ref p12, .ref p13, .ref p14, .ref p15, .ref p16, .ref p17, .ref p18, .ref p19, .ref p20, .ref p21, .int (nI he), .ref p22])), (p1, .inl (cI, 64, .inl MS)), (p2, .inl (cI, 68, .inl MT)), (p3, .inl (cI, 68, .inl MF)), (p4, .inl (cI, 68, .inl MU)), (p5, .inl (cI, 68, .inl MV))]) := by
  refine us_ofW (cc := b_M_commit) (maxL := 6) (ret := (some .int)) (by decide) (Nat.le_of_ble_eq_true rfl) ?_
  intro zp ze zs zm args below meth zc zA ls zQ hQ hx hb hr hml hts hown hlk hin hl hK hP hD hS hA
  have hown : zs.vm.findClass "UpcastStreamsModel" = some zm.cls := hown
  have hl : lv_has ls 6 [(0, .ref mm), (1, .int (nI j)), (2, .int w)] := hl
  obtain ⟨H, hH⟩ : ∃ H, H = zs.heap := ⟨_, rfl⟩
  rw [← hH] at hP ⊢
  have hS : va_S zA zs.heap H [] := hH ▸ hS
  generalize ([] : List Loc) = locs at hS ⊢
  have hn64 := hL.2.2.1
  refine lv_iload_n hx hb d_M_commit_0 rfl (lv_at hl 1 rfl) ?_
  refine us_callRS (As := [.int (nI j)]) (rest := []) ⟨hx, hb, hml, hown, hts⟩ (m_isStream zl dC dI cI cL cS cR (nI j) ) ⟨callB_of 1 hts (us_gC k_M_isStream) rfl rfl rfl (hts _ uw_1_10) (hts _ uw_3_239) h_M_isStream.2 ⟨by decide, by decide⟩, (hts _ uw_4_0)⟩ hK hP hS hA [] rfl rfl hl.1 rfl (Nat.le_of_ble_eq_true rfl) d_M_commit_1 ⟨by decide, by decide⟩ (fun u H locs w1 hP hS => ?_)
  obtain ⟨r1, rfl⟩ : ∃ z, z = u := ⟨_, rfl⟩
  try dsimp only at w1
  refine W.eq (g2 := F0 zm 4 ls [.int r1]) rfl ?_
  refine lv_if_eq (tgt := 18) hx hb d_M_commit_4 (by decide) (fun h => absurd ⟨nI_pos' (by omega), nI_lt (b := 8) hj (by omega)⟩ (us_d0 w1 h)) (fun c1 => ?_)
  refine lv_aload_n hx hb d_M_commit_7 rfl (lv_at hl 0 rfl) ?_
  refine va_get (D := (dC, dI)) (ci := 8) (v := .int (nI un)) (C := "UpcastStreamsModel") (T := F_M) (N := 29) hx hb hts in_M hown hK hP 0 rfl rfl 8 (by decide) (hts _ uw_3_139) (fun _ h9 => h9) rfl d_M_commit_8 ?_
  refine lv_if_le (tgt := 18) hx hb d_M_commit_11 (by decide) (fun h => absurd (us_le0 (a := un) (by omega) h) (by omega)) (fun c2 => ?_)
  refine lv_iconst (v := (1 : Int32)) hx hb d_M_commit_14 (by decide) ?_
  refine lv_goto (tgt := 19) hx hb d_M_commit_15 (by decide) ?_
  refine lv_istore_n (lv' := [(3, .int (1 : Int32)), (0, .ref mm), (1, .int (nI j)), (2, .int w)]) hx hb d_M_commit_19 rfl hl (by decide) rfl (fun ls hl => ?_)
  refine lv_aload_n hx hb d_M_commit_20 rfl (lv_at hl 1 rfl) ?_
  refine lv_iload_n hx hb d_M_commit_21 rfl (lv_at hl 2 rfl) ?_
  refine us_cV (q0 := 0) (As := [.int (nI j)]) (rest := []) (N2 := 6) (fun u => [(mm, .inr (8, [.int mp, .int co, .int (nI n), .ref p1, .ref p2, .ref p3, .ref p4, .ref p5, .int (nI un), .ref p6, .ref p7, .ref p8, .int cm, .ref p9, .ref p10, .ref p11, .int ope, .ref p12, .ref p13, .ref p14, .ref p15, .ref p16, .ref p17, .ref p18, .ref p19, .ref p20, .ref p21, .int (nI he), .ref p22])), (p1, .inl (cI, 64, .inl MS)), (p2, .inl (cI, 68, .inl MT)), (p3, .inl (cI, 68, .inl MF)), (p4, .inl (cI, 68, .inl MU)), (p5, .inl (cI, 68, .inl MV))]) ⟨hx, hb, hml, hown, hts⟩ (m_versionOf zl dC dI cI cL cS cR mm p1 p2 p3 p4 p5 p6 p7 p8 p9 p10 p11 p12 p13 p14 p15 p16 p17 p18 p19 p20 p21 p22 mp co cm ope n un he MS st (nI j) hL.2.2.2.1 hL.2.2.1) (cwV 1 hts (us_gV uw_4_2 uw_4_4 uw_p_12 uw_1_10 k_M_versionOf) rfl rfl rfl h_M_versionOf ⟨by decide, by decide⟩) hK hP hD hS hA [0, 1] [0, 1] [2, 3, 4, 5] rfl (by decide) (fun _ => rfl) [(p2, .inl (cI, 68, .inl MT)), (p3, .inl (cI, 68, .inl MF)), (p4, .inl (cI, 68, .inl MU)), (p5, .inl (cI, 68, .inl MV))] (fun _ => rfl) rfl (fun _ => rfl) (by decide) (by decide) rfl rfl rfl hl.1 rfl (Nat.le_of_ble_eq_true rfl) d_M_commit_22 ⟨by decide, by decide⟩ (fun u H locs w22 hP hD hS => ?_)
  obtain ⟨rv, rfl⟩ : ∃ z, z = u := ⟨_, rfl⟩
  have hP : va_P (dC, dI) vwCl [(mm, .inr (8, [.int mp, .int co, .int (nI n), .ref p1, .ref p2, .ref p3, .ref p4, .ref p5, .int (nI un), .ref p6, .ref p7, .ref p8, .int cm, .ref p9, .ref p10, .ref p11, .int ope, .ref p12, .ref p13, .ref p14, .ref p15, .ref p16, .ref p17, .ref p18, .ref p19, .ref p20, .ref p21, .int (nI he), .ref p22])), (p1, .inl (cI, 64, .inl MS)), (p2, .inl (cI, 68, .inl MT)), (p3, .inl (cI, 68, .inl MF)), (p4, .inl (cI, 68, .inl MU)), (p5, .inl (cI, 68, .inl MV))] H := hP
  have hD : va_D zA [(mm, .inr (8, [.int mp, .int co, .int (nI n), .ref p1, .ref p2, .ref p3, .ref p4, .ref p5, .int (nI un), .ref p6, .ref p7, .ref p8, .int cm, .ref p9, .ref p10, .ref p11, .int ope, .ref p12, .ref p13, .ref p14, .ref p15, .ref p16, .ref p17, .ref p18, .ref p19, .ref p20, .ref p21, .int (nI he), .ref p22])), (p1, .inl (cI, 64, .inl MS)), (p2, .inl (cI, 68, .inl MT)), (p3, .inl (cI, 68, .inl MF)), (p4, .inl (cI, 68, .inl MU)), (p5, .inl (cI, 68, .inl MV))] := hD
  try dsimp only at w22
  refine W.eq (g2 := F0 zm 25 ls [.int (nI rv)]) rfl ?_
  refine us_top (show (nI rv) = (nI (us_num st j n)) from by rw [w22.2 j hj rfl]) ?_
  refine lv_istore (lv' := [(4, .int (nI (us_num st j n))), (3, .int (1 : Int32)), (0, .ref mm), (1, .int (nI j)), (2, .int w)]) hx hb d_M_commit_25 hl (by decide) rfl (fun ls hl => ?_)
  refine lv_aload_n hx hb d_M_commit_27 rfl (lv_at hl 2 rfl) ?_
  refine lv_iload_n hx hb d_M_commit_28 rfl (lv_at hl 1 rfl) ?_
  refine lv_if_ne (tgt := 36) hx hb d_M_commit_29 (by decide) (fun c3 => ?_) (fun h => absurd h (by decide))
  refine lv_iload_n hx hb d_M_commit_36 rfl (lv_at hl 4 rfl) ?_
  refine lv_iconst (v := (-1 : Int32)) hx hb d_M_commit_37 (by decide) ?_
  refine lv_icmp_eq (tgt := 51) hx hb d_M_commit_38 (by decide) (fun c38 => ?_) (fun c38 => ?_)
  · refine lv_aload_n hx hb d_M_commit_51 rfl (lv_at hl 2 rfl) ?_
    refine va_get (D := (dC, dI)) (ci := 8) (v := .int (nI n)) (C := "UpcastStreamsModel") (T := F_M) (N := 29) hx hb hts in_M hown hK hP 0 rfl rfl 2 (by decide) (hts _ uw_3_133) (fun _ h9 => h9) rfl d_M_commit_52 ?_
    refine lv_aload_n hx hb d_M_commit_55 rfl (lv_at hl 2 rfl) ?_
    refine va_get (D := (dC, dI)) (ci := 8) (v := .int (nI un)) (C := "UpcastStreamsModel") (T := F_M) (N := 29) hx hb hts in_M hown hK hP 0 rfl rfl 8 (by decide) (hts _ uw_3_139) (fun _ h9 => h9) rfl d_M_commit_56 ?_
    refine lv_iadd hx hb d_M_commit_59 ?_
    refine us_top (show ((nI n) + (nI un)) = (nI (n + un)) from nI_add _ _) ?_
    refine lv_bipush (v := (64 : Int32)) hx hb d_M_commit_60 (by decide) ?_
    refine lv_icmp_le (tgt := 69) hx hb d_M_commit_62 (by decide) (fun h => absurd h (nI_ge (a := 64) hfull (by omega))) (fun c5 => ?_)
    refine lv_iconst (v := (3 : Int32)) hx hb d_M_commit_65 (by decide) ?_
    refine lv_goto (tgt := 70) hx hb d_M_commit_66 (by decide) ?_
    refine va_put (D := (dC, dI)) (ci := 8) (v := .int (3 : Int32)) (ty := .int) (C := "UpcastStreamsModel") (T := F_M) (N := 29) hx hb hts in_M t_M t_M_ok n_M hown hK hP hD hS 0 rfl rfl 1 (by decide) (hts _ uw_3_132) (fun _ h9 => h9) rfl (by decide +kernel) rfl rfl (Nat.le_of_ble_eq_true rfl) d_M_commit_70 (fun H locs hP hD hS => ?_)
    have hP : va_P (dC, dI) vwCl [(mm, .inr (8, [.int mp, .int (3 : Int32), .int (nI n), .ref p1, .ref p2, .ref p3, .ref p4, .ref p5, .int (nI un), .ref p6, .ref p7, .ref p8, .int cm, .ref p9, .ref p10, .ref p11, .int ope, .ref p12, .ref p13, .ref p14, .ref p15, .ref p16, .ref p17, .ref p18, .ref p19, .ref p20, .ref p21, .int (nI he), .ref p22])), (p1, .inl (cI, 64, .inl MS)), (p2, .inl (cI, 68, .inl MT)), (p3, .inl (cI, 68, .inl MF)), (p4, .inl (cI, 68, .inl MU)), (p5, .inl (cI, 68, .inl MV))] H := hP
    have hD : va_D zA [(mm, .inr (8, [.int mp, .int (3 : Int32), .int (nI n), .ref p1, .ref p2, .ref p3, .ref p4, .ref p5, .int (nI un), .ref p6, .ref p7, .ref p8, .int cm, .ref p9, .ref p10, .ref p11, .int ope, .ref p12, .ref p13, .ref p14, .ref p15, .ref p16, .ref p17, .ref p18, .ref p19, .ref p20, .ref p21, .int (nI he), .ref p22])), (p1, .inl (cI, 64, .inl MS)), (p2, .inl (cI, 68, .inl MT)), (p3, .inl (cI, 68, .inl MF)), (p4, .inl (cI, 68, .inl MU)), (p5, .inl (cI, 68, .inl MV))] := hD
    refine lv_aload_n hx hb d_M_commit_73 rfl (lv_at hl 2 rfl) ?_
    refine va_get (D := (dC, dI)) (ci := 8) (v := .int (3 : Int32)) (C := "UpcastStreamsModel") (T := F_M) (N := 29) hx hb hts in_M hown hK hP 0 rfl rfl 1 (by decide) (hts _ uw_3_132) (fun _ h9 => h9) rfl d_M_commit_74 ?_
    refine lv_if_le (tgt := 82) hx hb d_M_commit_77 (by decide) (fun h => absurd h (by decide)) (fun c6 => ?_)
    refine lv_iconst (v := (0 : Int32)) hx hb d_M_commit_80 (by decide) ?_
    exact us_iret hQ (by decide) (by decide) hx hb hr hlk hK hS () rfl (by simp) hP hD d_M_commit_81
  · refine lv_iload_n hx hb d_M_commit_41 rfl (lv_at hl 4 rfl) ?_
    refine lv_iload hx hb d_M_commit_42 (lv_at hl 0 rfl) ?_
    refine lv_icmp_eq (tgt := 51) hx hb d_M_commit_44 (by decide) (fun c7 => ?_) (fun h => absurd (hw.resolve_left c38) h)
    refine lv_aload_n hx hb d_M_commit_51 rfl (lv_at hl 2 rfl) ?_
    refine va_get (D := (dC, dI)) (ci := 8) (v := .int (nI n)) (C := "UpcastStreamsModel") (T := F_M) (N := 29) hx hb hts in_M hown hK hP 0 rfl rfl 2 (by decide) (hts _ uw_3_133) (fun _ h9 => h9) rfl d_M_commit_52 ?_
    refine lv_aload_n hx hb d_M_commit_55 rfl (lv_at hl 2 rfl) ?_
    refine va_get (D := (dC, dI)) (ci := 8) (v := .int (nI un)) (C := "UpcastStreamsModel") (T := F_M) (N := 29) hx hb hts in_M hown hK hP 0 rfl rfl 8 (by decide) (hts _ uw_3_139) (fun _ h9 => h9) rfl d_M_commit_56 ?_
    refine lv_iadd hx hb d_M_commit_59 ?_
    refine us_top (show ((nI n) + (nI un)) = (nI (n + un)) from nI_add _ _) ?_
    refine lv_bipush (v := (64 : Int32)) hx hb d_M_commit_60 (by decide) ?_
    refine lv_icmp_le (tgt := 69) hx hb d_M_commit_62 (by decide) (fun h => absurd h (nI_ge (a := 64) hfull (by omega))) (fun c8 => ?_)
    refine lv_iconst (v := (3 : Int32)) hx hb d_M_commit_65 (by decide) ?_
    refine lv_goto (tgt := 70) hx hb d_M_commit_66 (by decide) ?_
    refine va_put (D := (dC, dI)) (ci := 8) (v := .int (3 : Int32)) (ty := .int) (C := "UpcastStreamsModel") (T := F_M) (N := 29) hx hb hts in_M t_M t_M_ok n_M hown hK hP hD hS 0 rfl rfl 1 (by decide) (hts _ uw_3_132) (fun _ h9 => h9) rfl (by decide +kernel) rfl rfl (Nat.le_of_ble_eq_true rfl) d_M_commit_70 (fun H locs hP hD hS => ?_)
    have hP : va_P (dC, dI) vwCl [(mm, .inr (8, [.int mp, .int (3 : Int32), .int (nI n), .ref p1, .ref p2, .ref p3, .ref p4, .ref p5, .int (nI un), .ref p6, .ref p7, .ref p8, .int cm, .ref p9, .ref p10, .ref p11, .int ope, .ref p12, .ref p13, .ref p14, .ref p15, .ref p16, .ref p17, .ref p18, .ref p19, .ref p20, .ref p21, .int (nI he), .ref p22])), (p1, .inl (cI, 64, .inl MS)), (p2, .inl (cI, 68, .inl MT)), (p3, .inl (cI, 68, .inl MF)), (p4, .inl (cI, 68, .inl MU)), (p5, .inl (cI, 68, .inl MV))] H := hP
    have hD : va_D zA [(mm, .inr (8, [.int mp, .int (3 : Int32), .int (nI n), .ref p1, .ref p2, .ref p3, .ref p4, .ref p5, .int (nI un), .ref p6, .ref p7, .ref p8, .int cm, .ref p9, .ref p10, .ref p11, .int ope, .ref p12, .ref p13, .ref p14, .ref p15, .ref p16, .ref p17, .ref p18, .ref p19, .ref p20, .ref p21, .int (nI he), .ref p22])), (p1, .inl (cI, 64, .inl MS)), (p2, .inl (cI, 68, .inl MT)), (p3, .inl (cI, 68, .inl MF)), (p4, .inl (cI, 68, .inl MU)), (p5, .inl (cI, 68, .inl MV))] := hD
    refine lv_aload_n hx hb d_M_commit_73 rfl (lv_at hl 2 rfl) ?_
    refine va_get (D := (dC, dI)) (ci := 8) (v := .int (3 : Int32)) (C := "UpcastStreamsModel") (T := F_M) (N := 29) hx hb hts in_M hown hK hP 0 rfl rfl 1 (by decide) (hts _ uw_3_132) (fun _ h9 => h9) rfl d_M_commit_74 ?_
    refine lv_if_le (tgt := 82) hx hb d_M_commit_77 (by decide) (fun h => absurd h (by decide)) (fun c9 => ?_)
    refine lv_iconst (v := (0 : Int32)) hx hb d_M_commit_80 (by decide) ?_
    exact us_iret hQ (by decide) (by decide) hx hb hr hlk hK hS () rfl (by simp) hP hD d_M_commit_81

set_option maxHeartbeats 4000000 in
set_option maxRecDepth 100000 in
theorem m_load1 (zl : Launch) (dC : Nat → ClassId) (dI : Nat → Nat → Nat) (cI cL cS cR : ClassId) (mm : Nat) (p1 : Nat) (p2 : Nat) (p3 : Nat) (p4 : Nat) (p5 : Nat) (p6 : Nat) (p7 : Nat) (p8 : Nat) (p9 : Nat) (p10 : Nat) (p11 : Nat) (p12 : Nat) (p13 : Nat) (p14 : Nat) (p15 : Nat) (p16 : Nat) (p17 : Nat) (p18 : Nat) (p19 : Nat) (p20 : Nat) (p21 : Nat) (p22 : Nat) (mp : Int32) (co : Int32) (cm : Int32) (ope : Int32) (n : Nat) (un : Nat) (he : Nat) (y : Int32) (v : Int32) (hbad : ¬ (0 ≤ y ∧ y < 8)) : us_Met (S := Unit) zl y_M_load w_M_load ({ frames := 1, cells := 0, slots := 0, locals := 20 }) (dC, dI) vwCl (us_ty cI cL cS cR) [.ref mm, .int y, .int v] [(mm, .inr (8, [.int mp, .int co, .int (nI n), .ref p1, .ref p2, .ref p3, .ref p4, .ref p5, .int (nI un), .ref p6, .ref p7, .ref p8, .int cm, .ref p9, .ref p10, .ref p11, .int ope, .ref p12, .ref p13, .ref p14, .ref p15, .ref p16, .ref p17, .ref p18, .ref p19, .ref p20, .ref p21, .int (nI he), .ref p22]))] (fun u => some (.int (0 : Int32))) (fun u => True) (fun u => [(mm, .inr (8, [.int mp, .int (1 : Int32), .int (nI n), .ref p1, .ref p2, .ref p3, .ref p4, .ref p5, .int (nI un), .ref p6, .ref p7, .ref p8, .int cm, .ref p9, .ref p10, .ref p11, .int ope, .ref p12, .ref p13, .ref p14, .ref p15, .ref p16, .ref p17, .ref p18, .ref p19, .ref p20, .ref p21, .int (nI he), .ref p22]))]) := by
  refine us_ofW (cc := b_M_load) (maxL := 6) (ret := (some .int)) (by decide) (Nat.le_of_ble_eq_true rfl) ?_
  intro zp ze zs zm args below meth zc zA ls zQ hQ hx hb hr hml hts hown hlk hin hl hK hP hD hS hA
  have hown : zs.vm.findClass "UpcastStreamsModel" = some zm.cls := hown
  have hl : lv_has ls 6 [(0, .ref mm), (1, .int y), (2, .int v)] := hl
  obtain ⟨H, hH⟩ : ∃ H, H = zs.heap := ⟨_, rfl⟩
  rw [← hH] at hP ⊢
  have hS : va_S zA zs.heap H [] := hH ▸ hS
  generalize ([] : List Loc) = locs at hS ⊢
  refine lv_aload_n hx hb d_M_load_0 rfl (lv_at hl 0 rfl) ?_
  refine lv_iload_n hx hb d_M_load_1 rfl (lv_at hl 1 rfl) ?_
  refine us_callRS (As := [.int y]) (rest := [.ref mm]) ⟨hx, hb, hml, hown, hts⟩ (m_isStream zl dC dI cI cL cS cR y ) ⟨callB_of 1 hts (us_gC k_M_isStream) rfl rfl rfl (hts _ uw_1_10) (hts _ uw_3_239) h_M_isStream.2 ⟨by decide, by decide⟩, (hts _ uw_4_0)⟩ hK hP hS hA [] rfl rfl hl.1 rfl (Nat.le_of_ble_eq_true rfl) d_M_load_2 ⟨by decide, by decide⟩ (fun u H locs w2 hP hS => ?_)
  obtain ⟨r2, rfl⟩ : ∃ z, z = u := ⟨_, rfl⟩
  try dsimp only at w2
  refine W.eq (g2 := F0 zm 5 ls [.int r2, .ref mm]) rfl ?_
  refine lv_if_eq (tgt := 21) hx hb d_M_load_5 (by decide) (fun c1 => ?_) (fun h => absurd (us_d1 w2 h) hbad)
  refine lv_iconst (v := (1 : Int32)) hx hb d_M_load_21 (by decide) ?_
  refine lv_goto (tgt := 26) hx hb d_M_load_22 (by decide) ?_
  refine va_put (D := (dC, dI)) (ci := 8) (v := .int (1 : Int32)) (ty := .int) (C := "UpcastStreamsModel") (T := F_M) (N := 29) hx hb hts in_M t_M t_M_ok n_M hown hK hP hD hS 0 rfl rfl 1 (by decide) (hts _ uw_3_132) (fun _ h9 => h9) rfl (by decide +kernel) rfl rfl (Nat.le_of_ble_eq_true rfl) d_M_load_26 (fun H locs hP hD hS => ?_)
  have hP : va_P (dC, dI) vwCl [(mm, .inr (8, [.int mp, .int (1 : Int32), .int (nI n), .ref p1, .ref p2, .ref p3, .ref p4, .ref p5, .int (nI un), .ref p6, .ref p7, .ref p8, .int cm, .ref p9, .ref p10, .ref p11, .int ope, .ref p12, .ref p13, .ref p14, .ref p15, .ref p16, .ref p17, .ref p18, .ref p19, .ref p20, .ref p21, .int (nI he), .ref p22]))] H := hP
  have hD : va_D zA [(mm, .inr (8, [.int mp, .int (1 : Int32), .int (nI n), .ref p1, .ref p2, .ref p3, .ref p4, .ref p5, .int (nI un), .ref p6, .ref p7, .ref p8, .int cm, .ref p9, .ref p10, .ref p11, .int ope, .ref p12, .ref p13, .ref p14, .ref p15, .ref p16, .ref p17, .ref p18, .ref p19, .ref p20, .ref p21, .int (nI he), .ref p22]))] := hD
  refine lv_aload_n hx hb d_M_load_29 rfl (lv_at hl 0 rfl) ?_
  refine va_get (D := (dC, dI)) (ci := 8) (v := .int (1 : Int32)) (C := "UpcastStreamsModel") (T := F_M) (N := 29) hx hb hts in_M hown hK hP 0 rfl rfl 1 (by decide) (hts _ uw_3_132) (fun _ h9 => h9) rfl d_M_load_30 ?_
  refine lv_if_le (tgt := 38) hx hb d_M_load_33 (by decide) (fun h => absurd h (by decide)) (fun c2 => ?_)
  refine lv_iconst (v := (0 : Int32)) hx hb d_M_load_36 (by decide) ?_
  exact us_iret hQ (by decide) (by decide) hx hb hr hlk hK hS () rfl (by simp) hP hD d_M_load_37

set_option maxHeartbeats 4000000 in
set_option maxRecDepth 100000 in
theorem m_load2 (zl : Launch) (dC : Nat → ClassId) (dI : Nat → Nat → Nat) (cI cL cS cR : ClassId) (mm : Nat) (p1 : Nat) (p2 : Nat) (p3 : Nat) (p4 : Nat) (p5 : Nat) (p6 : Nat) (p7 : Nat) (p8 : Nat) (p9 : Nat) (p10 : Nat) (p11 : Nat) (p12 : Nat) (p13 : Nat) (p14 : Nat) (p15 : Nat) (p16 : Nat) (p17 : Nat) (p18 : Nat) (p19 : Nat) (p20 : Nat) (p21 : Nat) (p22 : Nat) (mp : Int32) (co : Int32) (cm : Int32) (ope : Int32) (n : Nat) (un : Nat) (he : Nat) (MS : Nat → Int32) (MT : Nat → Int32) (MF : Nat → Int32) (MU : Nat → Int32) (MV : Nat → Int32) (es : List us_Ev) (st : Nat → Nat) (j : Nat) (v : Int32) (hL : us_ml MS MT MF MU MV n es st) (hj : j < 8) (hbad : ¬ (0 ≤ v ∧ v ≤ nI (us_num st j n))) : us_Met (S := Unit) zl y_M_load w_M_load ({ frames := 1, cells := 0, slots := 0, locals := 23 }) (dC, dI) vwCl (us_ty cI cL cS cR) [.ref mm, .int (nI j), .int v] [(mm, .inr (8, [.int mp, .int co, .int (nI n), .ref p1, .ref p2, .ref p3, .ref p4, .ref p5, .int (nI un), .ref p6, .ref p7, .ref p8, .int cm, .ref p9, .ref p10, .ref p11, .int ope, .ref p12, .ref p13, .ref p14, .ref p15, .ref p16, .ref p17, .ref p18, .ref p19, .ref p20, .ref p21, .int (nI he), .ref p22])), (p1, .inl (cI, 64, .inl MS)), (p2, .inl (cI, 68, .inl MT)), (p3, .inl (cI, 68, .inl MF)), (p4, .inl (cI, 68, .inl MU)), (p5, .inl (cI, 68, .inl MV))] (fun u => some (.int (0 : Int32))) (fun u => True) (fun u => [(mm, .inr (8, [.int mp, .int (1 : Int32), .int (nI n), .ref p1, .ref p2, .ref p3, .ref p4, .ref p5, .int (nI un), .ref p6, .ref p7, .ref p8, .int cm, .ref p9, .ref p10, .ref p11, .int ope, .ref p12, .ref p13, .ref p14, .ref p15, .ref p16, .ref p17, .ref p18, .ref p19, .ref p20, .ref p21, .int (nI he), .ref p22])), (p1, .inl (cI, 64, .inl MS)), (p2, .inl (cI, 68, .inl MT)), (p3, .inl (cI, 68, .inl MF)), (p4, .inl (cI, 68, .inl MU)), (p5, .inl (cI, 68, .inl MV))]) := by
  refine us_ofW (cc := b_M_load) (maxL := 6) (ret := (some .int)) (by decide) (Nat.le_of_ble_eq_true rfl) ?_
  intro zp ze zs zm args below meth zc zA ls zQ hQ hx hb hr hml hts hown hlk hin hl hK hP hD hS hA
  have hown : zs.vm.findClass "UpcastStreamsModel" = some zm.cls := hown
  have hl : lv_has ls 6 [(0, .ref mm), (1, .int (nI j)), (2, .int v)] := hl
  obtain ⟨H, hH⟩ : ∃ H, H = zs.heap := ⟨_, rfl⟩
  rw [← hH] at hP ⊢
  have hS : va_S zA zs.heap H [] := hH ▸ hS
  generalize ([] : List Loc) = locs at hS ⊢
  refine lv_aload_n hx hb d_M_load_0 rfl (lv_at hl 0 rfl) ?_
  refine lv_iload_n hx hb d_M_load_1 rfl (lv_at hl 1 rfl) ?_
  refine us_callRS (As := [.int (nI j)]) (rest := [.ref mm]) ⟨hx, hb, hml, hown, hts⟩ (m_isStream zl dC dI cI cL cS cR (nI j) ) ⟨callB_of 1 hts (us_gC k_M_isStream) rfl rfl rfl (hts _ uw_1_10) (hts _ uw_3_239) h_M_isStream.2 ⟨by decide, by decide⟩, (hts _ uw_4_0)⟩ hK hP hS hA [] rfl rfl hl.1 rfl (Nat.le_of_ble_eq_true rfl) d_M_load_2 ⟨by decide, by decide⟩ (fun u H locs w2 hP hS => ?_)
  obtain ⟨r2, rfl⟩ : ∃ z, z = u := ⟨_, rfl⟩
  try dsimp only at w2
  refine W.eq (g2 := F0 zm 5 ls [.int r2, .ref mm]) rfl ?_
  refine lv_if_eq (tgt := 21) hx hb d_M_load_5 (by decide) (fun h => absurd ⟨nI_pos' (by omega), nI_lt (b := 8) hj (by omega)⟩ (us_d0 w2 h)) (fun c1 => ?_)
  refine lv_iload_n hx hb d_M_load_8 rfl (lv_at hl 2 rfl) ?_
  refine lv_if_lt (tgt := 21) hx hb d_M_load_9 (by decide) (fun c9 => ?_) (fun c9 => ?_)
  · refine lv_iconst (v := (1 : Int32)) hx hb d_M_load_21 (by decide) ?_
    refine lv_goto (tgt := 26) hx hb d_M_load_22 (by decide) ?_
    refine va_put (D := (dC, dI)) (ci := 8) (v := .int (1 : Int32)) (ty := .int) (C := "UpcastStreamsModel") (T := F_M) (N := 29) hx hb hts in_M t_M t_M_ok n_M hown hK hP hD hS 0 rfl rfl 1 (by decide) (hts _ uw_3_132) (fun _ h9 => h9) rfl (by decide +kernel) rfl rfl (Nat.le_of_ble_eq_true rfl) d_M_load_26 (fun H locs hP hD hS => ?_)
    have hP : va_P (dC, dI) vwCl [(mm, .inr (8, [.int mp, .int (1 : Int32), .int (nI n), .ref p1, .ref p2, .ref p3, .ref p4, .ref p5, .int (nI un), .ref p6, .ref p7, .ref p8, .int cm, .ref p9, .ref p10, .ref p11, .int ope, .ref p12, .ref p13, .ref p14, .ref p15, .ref p16, .ref p17, .ref p18, .ref p19, .ref p20, .ref p21, .int (nI he), .ref p22])), (p1, .inl (cI, 64, .inl MS)), (p2, .inl (cI, 68, .inl MT)), (p3, .inl (cI, 68, .inl MF)), (p4, .inl (cI, 68, .inl MU)), (p5, .inl (cI, 68, .inl MV))] H := hP
    have hD : va_D zA [(mm, .inr (8, [.int mp, .int (1 : Int32), .int (nI n), .ref p1, .ref p2, .ref p3, .ref p4, .ref p5, .int (nI un), .ref p6, .ref p7, .ref p8, .int cm, .ref p9, .ref p10, .ref p11, .int ope, .ref p12, .ref p13, .ref p14, .ref p15, .ref p16, .ref p17, .ref p18, .ref p19, .ref p20, .ref p21, .int (nI he), .ref p22])), (p1, .inl (cI, 64, .inl MS)), (p2, .inl (cI, 68, .inl MT)), (p3, .inl (cI, 68, .inl MF)), (p4, .inl (cI, 68, .inl MU)), (p5, .inl (cI, 68, .inl MV))] := hD
    refine lv_aload_n hx hb d_M_load_29 rfl (lv_at hl 0 rfl) ?_
    refine va_get (D := (dC, dI)) (ci := 8) (v := .int (1 : Int32)) (C := "UpcastStreamsModel") (T := F_M) (N := 29) hx hb hts in_M hown hK hP 0 rfl rfl 1 (by decide) (hts _ uw_3_132) (fun _ h9 => h9) rfl d_M_load_30 ?_
    refine lv_if_le (tgt := 38) hx hb d_M_load_33 (by decide) (fun h => absurd h (by decide)) (fun c3 => ?_)
    refine lv_iconst (v := (0 : Int32)) hx hb d_M_load_36 (by decide) ?_
    exact us_iret hQ (by decide) (by decide) hx hb hr hlk hK hS () rfl (by simp) hP hD d_M_load_37
  · refine lv_iload_n hx hb d_M_load_12 rfl (lv_at hl 2 rfl) ?_
    refine lv_aload_n hx hb d_M_load_13 rfl (lv_at hl 0 rfl) ?_
    refine lv_iload_n hx hb d_M_load_14 rfl (lv_at hl 1 rfl) ?_
    refine us_cV (q0 := 0) (As := [.int (nI j)]) (rest := [.int v, .ref mm]) (N2 := 6) (fun u => [(mm, .inr (8, [.int mp, .int co, .int (nI n), .ref p1, .ref p2, .ref p3, .ref p4, .ref p5, .int (nI un), .ref p6, .ref p7, .ref p8, .int cm, .ref p9, .ref p10, .ref p11, .int ope, .ref p12, .ref p13, .ref p14, .ref p15, .ref p16, .ref p17, .ref p18, .ref p19, .ref p20, .ref p21, .int (nI he), .ref p22])), (p1, .inl (cI, 64, .inl MS)), (p2, .inl (cI, 68, .inl MT)), (p3, .inl (cI, 68, .inl MF)), (p4, .inl (cI, 68, .inl MU)), (p5, .inl (cI, 68, .inl MV))]) ⟨hx, hb, hml, hown, hts⟩ (m_versionOf zl dC dI cI cL cS cR mm p1 p2 p3 p4 p5 p6 p7 p8 p9 p10 p11 p12 p13 p14 p15 p16 p17 p18 p19 p20 p21 p22 mp co cm ope n un he MS st (nI j) hL.2.2.2.1 hL.2.2.1) (cwV 1 hts (us_gV uw_4_2 uw_4_4 uw_p_12 uw_1_10 k_M_versionOf) rfl rfl rfl h_M_versionOf ⟨by decide, by decide⟩) hK hP hD hS hA [0, 1] [0, 1] [2, 3, 4, 5] rfl (by decide) (fun _ => rfl) [(p2, .inl (cI, 68, .inl MT)), (p3, .inl (cI, 68, .inl MF)), (p4, .inl (cI, 68, .inl MU)), (p5, .inl (cI, 68, .inl MV))] (fun _ => rfl) rfl (fun _ => rfl) (by decide) (by decide) rfl rfl rfl hl.1 rfl (Nat.le_of_ble_eq_true rfl) d_M_load_15 ⟨by decide, by decide⟩ (fun u H locs w15 hP hD hS => ?_)
    obtain ⟨rv, rfl⟩ : ∃ z, z = u := ⟨_, rfl⟩
    have hP : va_P (dC, dI) vwCl [(mm, .inr (8, [.int mp, .int co, .int (nI n), .ref p1, .ref p2, .ref p3, .ref p4, .ref p5, .int (nI un), .ref p6, .ref p7, .ref p8, .int cm, .ref p9, .ref p10, .ref p11, .int ope, .ref p12, .ref p13, .ref p14, .ref p15, .ref p16, .ref p17, .ref p18, .ref p19, .ref p20, .ref p21, .int (nI he), .ref p22])), (p1, .inl (cI, 64, .inl MS)), (p2, .inl (cI, 68, .inl MT)), (p3, .inl (cI, 68, .inl MF)), (p4, .inl (cI, 68, .inl MU)), (p5, .inl (cI, 68, .inl MV))] H := hP
    have hD : va_D zA [(mm, .inr (8, [.int mp, .int co, .int (nI n), .ref p1, .ref p2, .ref p3, .ref p4, .ref p5, .int (nI un), .ref p6, .ref p7, .ref p8, .int cm, .ref p9, .ref p10, .ref p11, .int ope, .ref p12, .ref p13, .ref p14, .ref p15, .ref p16, .ref p17, .ref p18, .ref p19, .ref p20, .ref p21, .int (nI he), .ref p22])), (p1, .inl (cI, 64, .inl MS)), (p2, .inl (cI, 68, .inl MT)), (p3, .inl (cI, 68, .inl MF)), (p4, .inl (cI, 68, .inl MU)), (p5, .inl (cI, 68, .inl MV))] := hD
    try dsimp only at w15
    refine W.eq (g2 := F0 zm 18 ls [.int (nI rv), .int v, .ref mm]) rfl ?_
    refine us_top (show (nI rv) = (nI (us_num st j n)) from by rw [w15.2 j hj rfl]) ?_
    refine lv_icmp_le (tgt := 25) hx hb d_M_load_18 (by decide) (fun h => absurd ⟨Int32.not_lt.mp c9, h⟩ hbad) (fun c4 => ?_)
    refine lv_iconst (v := (1 : Int32)) hx hb d_M_load_21 (by decide) ?_
    refine lv_goto (tgt := 26) hx hb d_M_load_22 (by decide) ?_
    refine va_put (D := (dC, dI)) (ci := 8) (v := .int (1 : Int32)) (ty := .int) (C := "UpcastStreamsModel") (T := F_M) (N := 29) hx hb hts in_M t_M t_M_ok n_M hown hK hP hD hS 0 rfl rfl 1 (by decide) (hts _ uw_3_132) (fun _ h9 => h9) rfl (by decide +kernel) rfl rfl (Nat.le_of_ble_eq_true rfl) d_M_load_26 (fun H locs hP hD hS => ?_)
    have hP : va_P (dC, dI) vwCl [(mm, .inr (8, [.int mp, .int (1 : Int32), .int (nI n), .ref p1, .ref p2, .ref p3, .ref p4, .ref p5, .int (nI un), .ref p6, .ref p7, .ref p8, .int cm, .ref p9, .ref p10, .ref p11, .int ope, .ref p12, .ref p13, .ref p14, .ref p15, .ref p16, .ref p17, .ref p18, .ref p19, .ref p20, .ref p21, .int (nI he), .ref p22])), (p1, .inl (cI, 64, .inl MS)), (p2, .inl (cI, 68, .inl MT)), (p3, .inl (cI, 68, .inl MF)), (p4, .inl (cI, 68, .inl MU)), (p5, .inl (cI, 68, .inl MV))] H := hP
    have hD : va_D zA [(mm, .inr (8, [.int mp, .int (1 : Int32), .int (nI n), .ref p1, .ref p2, .ref p3, .ref p4, .ref p5, .int (nI un), .ref p6, .ref p7, .ref p8, .int cm, .ref p9, .ref p10, .ref p11, .int ope, .ref p12, .ref p13, .ref p14, .ref p15, .ref p16, .ref p17, .ref p18, .ref p19, .ref p20, .ref p21, .int (nI he), .ref p22])), (p1, .inl (cI, 64, .inl MS)), (p2, .inl (cI, 68, .inl MT)), (p3, .inl (cI, 68, .inl MF)), (p4, .inl (cI, 68, .inl MU)), (p5, .inl (cI, 68, .inl MV))] := hD
    refine lv_aload_n hx hb d_M_load_29 rfl (lv_at hl 0 rfl) ?_
    refine va_get (D := (dC, dI)) (ci := 8) (v := .int (1 : Int32)) (C := "UpcastStreamsModel") (T := F_M) (N := 29) hx hb hts in_M hown hK hP 0 rfl rfl 1 (by decide) (hts _ uw_3_132) (fun _ h9 => h9) rfl d_M_load_30 ?_
    refine lv_if_le (tgt := 38) hx hb d_M_load_33 (by decide) (fun h => absurd h (by decide)) (fun c5 => ?_)
    refine lv_iconst (v := (0 : Int32)) hx hb d_M_load_36 (by decide) ?_
    exact us_iret hQ (by decide) (by decide) hx hb hr hlk hK hS () rfl (by simp) hP hD d_M_load_37

set_option maxHeartbeats 4000000 in
set_option maxRecDepth 100000 in
theorem m_load (zl : Launch) (dC : Nat → ClassId) (dI : Nat → Nat → Nat) (cI cL cS cR : ClassId) (mm : Nat) (p1 : Nat) (p2 : Nat) (p3 : Nat) (p4 : Nat) (p5 : Nat) (p6 : Nat) (p7 : Nat) (p8 : Nat) (p9 : Nat) (p10 : Nat) (p11 : Nat) (p12 : Nat) (p13 : Nat) (p14 : Nat) (p15 : Nat) (p16 : Nat) (p17 : Nat) (p18 : Nat) (p19 : Nat) (p20 : Nat) (p21 : Nat) (p22 : Nat) (mp : Int32) (co : Int32) (cm : Int32) (ope : Int32) (n : Nat) (un : Nat) (he : Nat) (MS : Nat → Int32) (MT : Nat → Int32) (MF : Nat → Int32) (MU : Nat → Int32) (MV : Nat → Int32) (KD : Nat → Int32) (KS : Nat → Int32) (C1 : Nat → Int32) (C2 : Nat → Int32) (C3 : Nat → Int32) (O1 : Nat → Int32) (O2 : Nat → Int32) (O3 : Nat → Int32) (O4 : Nat → Int32) (SA : Nat → Int64) (SN : Nat → Int32) (LA : Nat → Int64) (j : Nat) (v : Nat) (es : List us_Ev) (st : Nat → Nat) (hL : us_ml MS MT MF MU MV n es st) (hR : us_rok KD KS) (hj : j < 8) (hv : v ≤ us_num st j n) : us_Met (S := (Nat → Int32) × (Nat → Int32) × (Nat → Int32) × (Nat → Int32) × (Nat → Int32) × (Nat → Int32) × (Nat → Int32) × Int32 × Int32 × (Nat → Int64) × (Nat → Int64) × Int32) zl y_M_load w_M_load ({ frames := 6, cells := 0, slots := 0, locals := 143 }) (dC, dI) vwCl (us_ty cI cL cS cR) [.ref mm, .int (nI j), .int (nI v)] [(mm, .inr (8, [.int mp, .int co, .int (nI n), .ref p1, .ref p2, .ref p3, .ref p4, .ref p5, .int (nI un), .ref p6, .ref p7, .ref p8, .int cm, .ref p9, .ref p10, .ref p11, .int ope, .ref p12, .ref p13, .ref p14, .ref p15, .ref p16, .ref p17, .ref p18, .ref p19, .ref p20, .ref p21, .int (nI he), .ref p22])), (p1, .inl (cI, 64, .inl MS)), (p2, .inl (cI, 68, .inl MT)), (p3, .inl (cI, 68, .inl MF)), (p4, .inl (cI, 68, .inl MU)), (p5, .inl (cI, 68, .inl MV)), (p6, .inl (cI, 12, .inl KD)), (p7, .inl (cI, 12, .inl KS)), (p9, .inl (cI, 4, .inl C1)), (p10, .inl (cI, 4, .inl C2)), (p11, .inl (cI, 4, .inl C3)), (p12, .inl (cI, 8, .inl O1)), (p13, .inl (cI, 8, .inl O2)), (p14, .inl (cI, 8, .inl O3)), (p15, .inl (cI, 8, .inl O4)), (p16, .inl (cL, 8, .inr (.inl SA))), (p17, .inl (cL, 8, .inr (.inl LA))), (p8, .inl (cI, 16, .inl SN))] (fun u => some (.int u.2.2.2.2.2.2.2.2.2.2.2)) (fun u => us_sx u.2.2.2.2.2.2.2.2.2.2.1 (us_fs KD KS (us_at es) st j v n) ∧ u.2.2.2.2.2.2.2.2.2.2.2 = nI v - us_mf (SN (2 * j)) (SN (2 * j + 1)) (nI v)) (fun u => [(mm, .inr (8, [.int mp, .int (0 : Int32), .int (nI n), .ref p1, .ref p2, .ref p3, .ref p4, .ref p5, .int (nI un), .ref p6, .ref p7, .ref p8, .int u.2.2.2.2.2.2.2.1, .ref p9, .ref p10, .ref p11, .int u.2.2.2.2.2.2.2.2.1, .ref p12, .ref p13, .ref p14, .ref p15, .ref p16, .ref p17, .ref p18, .ref p19, .ref p20, .ref p21, .int (nI he), .ref p22])), (p1, .inl (cI, 64, .inl MS)), (p2, .inl (cI, 68, .inl MT)), (p3, .inl (cI, 68, .inl MF)), (p4, .inl (cI, 68, .inl MU)), (p5, .inl (cI, 68, .inl MV)), (p6, .inl (cI, 12, .inl KD)), (p7, .inl (cI, 12, .inl KS)), (p9, .inl (cI, 4, .inl u.1)), (p10, .inl (cI, 4, .inl u.2.1)), (p11, .inl (cI, 4, .inl u.2.2.1)), (p12, .inl (cI, 8, .inl u.2.2.2.1)), (p13, .inl (cI, 8, .inl u.2.2.2.2.1)), (p14, .inl (cI, 8, .inl u.2.2.2.2.2.1)), (p15, .inl (cI, 8, .inl u.2.2.2.2.2.2.1)), (p16, .inl (cL, 8, .inr (.inl u.2.2.2.2.2.2.2.2.2.1))), (p17, .inl (cL, 8, .inr (.inl u.2.2.2.2.2.2.2.2.2.2.1))), (p8, .inl (cI, 16, .inl SN))]) := by
  refine us_ofW (cc := b_M_load) (maxL := 6) (ret := (some .int)) (by decide) (Nat.le_of_ble_eq_true rfl) ?_
  intro zp ze zs zm args below meth zc zA ls zQ hQ hx hb hr hml hts hown hlk hin hl hK hP hD hS hA
  have hown : zs.vm.findClass "UpcastStreamsModel" = some zm.cls := hown
  have hl : lv_has ls 6 [(0, .ref mm), (1, .int (nI j)), (2, .int (nI v))] := hl
  obtain ⟨H, hH⟩ : ∃ H, H = zs.heap := ⟨_, rfl⟩
  rw [← hH] at hP ⊢
  have hS : va_S zA zs.heap H [] := hH ▸ hS
  generalize ([] : List Loc) = locs at hS ⊢
  have hn64 := hL.2.2.1
  have hnl := us_num_le st j n
  refine lv_aload_n hx hb d_M_load_0 rfl (lv_at hl 0 rfl) ?_
  refine lv_iload_n hx hb d_M_load_1 rfl (lv_at hl 1 rfl) ?_
  refine us_callRS (As := [.int (nI j)]) (rest := [.ref mm]) ⟨hx, hb, hml, hown, hts⟩ (m_isStream zl dC dI cI cL cS cR (nI j) ) ⟨callB_of 1 hts (us_gC k_M_isStream) rfl rfl rfl (hts _ uw_1_10) (hts _ uw_3_239) h_M_isStream.2 ⟨by decide, by decide⟩, (hts _ uw_4_0)⟩ hK hP hS hA [] rfl rfl hl.1 rfl (Nat.le_of_ble_eq_true rfl) d_M_load_2 ⟨by decide, by decide⟩ (fun u H locs w2 hP hS => ?_)
  obtain ⟨r2, rfl⟩ : ∃ z, z = u := ⟨_, rfl⟩
  try dsimp only at w2
  refine W.eq (g2 := F0 zm 5 ls [.int r2, .ref mm]) rfl ?_
  refine lv_if_eq (tgt := 21) hx hb d_M_load_5 (by decide) (fun h => absurd ⟨nI_pos' (by omega), nI_lt (b := 8) hj (by omega)⟩ (us_d0 w2 h)) (fun c1 => ?_)
  refine lv_iload_n hx hb d_M_load_8 rfl (lv_at hl 2 rfl) ?_
  refine lv_if_lt (tgt := 21) hx hb d_M_load_9 (by decide) (fun h => absurd h (nI_pos (by omega))) (fun c2 => ?_)
  refine lv_iload_n hx hb d_M_load_12 rfl (lv_at hl 2 rfl) ?_
  refine lv_aload_n hx hb d_M_load_13 rfl (lv_at hl 0 rfl) ?_
  refine lv_iload_n hx hb d_M_load_14 rfl (lv_at hl 1 rfl) ?_
  refine us_cV (q0 := 0) (As := [.int (nI j)]) (rest := [.int (nI v), .ref mm]) (N2 := 18) (fun u => [(mm, .inr (8, [.int mp, .int co, .int (nI n), .ref p1, .ref p2, .ref p3, .ref p4, .ref p5, .int (nI un), .ref p6, .ref p7, .ref p8, .int cm, .ref p9, .ref p10, .ref p11, .int ope, .ref p12, .ref p13, .ref p14, .ref p15, .ref p16, .ref p17, .ref p18, .ref p19, .ref p20, .ref p21, .int (nI he), .ref p22])), (p1, .inl (cI, 64, .inl MS)), (p2, .inl (cI, 68, .inl MT)), (p3, .inl (cI, 68, .inl MF)), (p4, .inl (cI, 68, .inl MU)), (p5, .inl (cI, 68, .inl MV)), (p6, .inl (cI, 12, .inl KD)), (p7, .inl (cI, 12, .inl KS)), (p9, .inl (cI, 4, .inl C1)), (p10, .inl (cI, 4, .inl C2)), (p11, .inl (cI, 4, .inl C3)), (p12, .inl (cI, 8, .inl O1)), (p13, .inl (cI, 8, .inl O2)), (p14, .inl (cI, 8, .inl O3)), (p15, .inl (cI, 8, .inl O4)), (p16, .inl (cL, 8, .inr (.inl SA))), (p17, .inl (cL, 8, .inr (.inl LA))), (p8, .inl (cI, 16, .inl SN))]) ⟨hx, hb, hml, hown, hts⟩ (m_versionOf zl dC dI cI cL cS cR mm p1 p2 p3 p4 p5 p6 p7 p8 p9 p10 p11 p12 p13 p14 p15 p16 p17 p18 p19 p20 p21 p22 mp co cm ope n un he MS st (nI j) hL.2.2.2.1 hL.2.2.1) (cwV 1 hts (us_gV uw_4_2 uw_4_4 uw_p_12 uw_1_10 k_M_versionOf) rfl rfl rfl h_M_versionOf ⟨by decide, by decide⟩) hK hP hD hS hA [0, 1] [0, 1] [2, 3, 4, 5, 6, 7, 8, 9, 10, 11, 12, 13, 14, 15, 16, 17] rfl (by decide) (fun _ => rfl) [(p2, .inl (cI, 68, .inl MT)), (p3, .inl (cI, 68, .inl MF)), (p4, .inl (cI, 68, .inl MU)), (p5, .inl (cI, 68, .inl MV)), (p6, .inl (cI, 12, .inl KD)), (p7, .inl (cI, 12, .inl KS)), (p9, .inl (cI, 4, .inl C1)), (p10, .inl (cI, 4, .inl C2)), (p11, .inl (cI, 4, .inl C3)), (p12, .inl (cI, 8, .inl O1)), (p13, .inl (cI, 8, .inl O2)), (p14, .inl (cI, 8, .inl O3)), (p15, .inl (cI, 8, .inl O4)), (p16, .inl (cL, 8, .inr (.inl SA))), (p17, .inl (cL, 8, .inr (.inl LA))), (p8, .inl (cI, 16, .inl SN))] (fun _ => rfl) rfl (fun _ => rfl) (by decide) (by decide) rfl rfl rfl hl.1 rfl (Nat.le_of_ble_eq_true rfl) d_M_load_15 ⟨by decide, by decide⟩ (fun u H locs w15 hP hD hS => ?_)
  obtain ⟨rv, rfl⟩ : ∃ z, z = u := ⟨_, rfl⟩
  have hP : va_P (dC, dI) vwCl [(mm, .inr (8, [.int mp, .int co, .int (nI n), .ref p1, .ref p2, .ref p3, .ref p4, .ref p5, .int (nI un), .ref p6, .ref p7, .ref p8, .int cm, .ref p9, .ref p10, .ref p11, .int ope, .ref p12, .ref p13, .ref p14, .ref p15, .ref p16, .ref p17, .ref p18, .ref p19, .ref p20, .ref p21, .int (nI he), .ref p22])), (p1, .inl (cI, 64, .inl MS)), (p2, .inl (cI, 68, .inl MT)), (p3, .inl (cI, 68, .inl MF)), (p4, .inl (cI, 68, .inl MU)), (p5, .inl (cI, 68, .inl MV)), (p6, .inl (cI, 12, .inl KD)), (p7, .inl (cI, 12, .inl KS)), (p9, .inl (cI, 4, .inl C1)), (p10, .inl (cI, 4, .inl C2)), (p11, .inl (cI, 4, .inl C3)), (p12, .inl (cI, 8, .inl O1)), (p13, .inl (cI, 8, .inl O2)), (p14, .inl (cI, 8, .inl O3)), (p15, .inl (cI, 8, .inl O4)), (p16, .inl (cL, 8, .inr (.inl SA))), (p17, .inl (cL, 8, .inr (.inl LA))), (p8, .inl (cI, 16, .inl SN))] H := hP
  have hD : va_D zA [(mm, .inr (8, [.int mp, .int co, .int (nI n), .ref p1, .ref p2, .ref p3, .ref p4, .ref p5, .int (nI un), .ref p6, .ref p7, .ref p8, .int cm, .ref p9, .ref p10, .ref p11, .int ope, .ref p12, .ref p13, .ref p14, .ref p15, .ref p16, .ref p17, .ref p18, .ref p19, .ref p20, .ref p21, .int (nI he), .ref p22])), (p1, .inl (cI, 64, .inl MS)), (p2, .inl (cI, 68, .inl MT)), (p3, .inl (cI, 68, .inl MF)), (p4, .inl (cI, 68, .inl MU)), (p5, .inl (cI, 68, .inl MV)), (p6, .inl (cI, 12, .inl KD)), (p7, .inl (cI, 12, .inl KS)), (p9, .inl (cI, 4, .inl C1)), (p10, .inl (cI, 4, .inl C2)), (p11, .inl (cI, 4, .inl C3)), (p12, .inl (cI, 8, .inl O1)), (p13, .inl (cI, 8, .inl O2)), (p14, .inl (cI, 8, .inl O3)), (p15, .inl (cI, 8, .inl O4)), (p16, .inl (cL, 8, .inr (.inl SA))), (p17, .inl (cL, 8, .inr (.inl LA))), (p8, .inl (cI, 16, .inl SN))] := hD
  try dsimp only at w15
  refine W.eq (g2 := F0 zm 18 ls [.int (nI rv), .int (nI v), .ref mm]) rfl ?_
  refine us_top (show (nI rv) = (nI (us_num st j n)) from by rw [w15.2 j hj rfl]) ?_
  refine lv_icmp_le (tgt := 25) hx hb d_M_load_18 (by decide) (fun c3 => ?_) (fun h => absurd (nI_le hv (by omega)) h)
  refine lv_iconst (v := (0 : Int32)) hx hb d_M_load_25 (by decide) ?_
  refine va_put (D := (dC, dI)) (ci := 8) (v := .int (0 : Int32)) (ty := .int) (C := "UpcastStreamsModel") (T := F_M) (N := 29) hx hb hts in_M t_M t_M_ok n_M hown hK hP hD hS 0 rfl rfl 1 (by decide) (hts _ uw_3_132) (fun _ h9 => h9) rfl (by decide +kernel) rfl rfl (Nat.le_of_ble_eq_true rfl) d_M_load_26 (fun H locs hP hD hS => ?_)
  have hP : va_P (dC, dI) vwCl [(mm, .inr (8, [.int mp, .int (0 : Int32), .int (nI n), .ref p1, .ref p2, .ref p3, .ref p4, .ref p5, .int (nI un), .ref p6, .ref p7, .ref p8, .int cm, .ref p9, .ref p10, .ref p11, .int ope, .ref p12, .ref p13, .ref p14, .ref p15, .ref p16, .ref p17, .ref p18, .ref p19, .ref p20, .ref p21, .int (nI he), .ref p22])), (p1, .inl (cI, 64, .inl MS)), (p2, .inl (cI, 68, .inl MT)), (p3, .inl (cI, 68, .inl MF)), (p4, .inl (cI, 68, .inl MU)), (p5, .inl (cI, 68, .inl MV)), (p6, .inl (cI, 12, .inl KD)), (p7, .inl (cI, 12, .inl KS)), (p9, .inl (cI, 4, .inl C1)), (p10, .inl (cI, 4, .inl C2)), (p11, .inl (cI, 4, .inl C3)), (p12, .inl (cI, 8, .inl O1)), (p13, .inl (cI, 8, .inl O2)), (p14, .inl (cI, 8, .inl O3)), (p15, .inl (cI, 8, .inl O4)), (p16, .inl (cL, 8, .inr (.inl SA))), (p17, .inl (cL, 8, .inr (.inl LA))), (p8, .inl (cI, 16, .inl SN))] H := hP
  have hD : va_D zA [(mm, .inr (8, [.int mp, .int (0 : Int32), .int (nI n), .ref p1, .ref p2, .ref p3, .ref p4, .ref p5, .int (nI un), .ref p6, .ref p7, .ref p8, .int cm, .ref p9, .ref p10, .ref p11, .int ope, .ref p12, .ref p13, .ref p14, .ref p15, .ref p16, .ref p17, .ref p18, .ref p19, .ref p20, .ref p21, .int (nI he), .ref p22])), (p1, .inl (cI, 64, .inl MS)), (p2, .inl (cI, 68, .inl MT)), (p3, .inl (cI, 68, .inl MF)), (p4, .inl (cI, 68, .inl MU)), (p5, .inl (cI, 68, .inl MV)), (p6, .inl (cI, 12, .inl KD)), (p7, .inl (cI, 12, .inl KS)), (p9, .inl (cI, 4, .inl C1)), (p10, .inl (cI, 4, .inl C2)), (p11, .inl (cI, 4, .inl C3)), (p12, .inl (cI, 8, .inl O1)), (p13, .inl (cI, 8, .inl O2)), (p14, .inl (cI, 8, .inl O3)), (p15, .inl (cI, 8, .inl O4)), (p16, .inl (cL, 8, .inr (.inl SA))), (p17, .inl (cL, 8, .inr (.inl LA))), (p8, .inl (cI, 16, .inl SN))] := hD
  refine lv_aload_n hx hb d_M_load_29 rfl (lv_at hl 0 rfl) ?_
  refine va_get (D := (dC, dI)) (ci := 8) (v := .int (0 : Int32)) (C := "UpcastStreamsModel") (T := F_M) (N := 29) hx hb hts in_M hown hK hP 0 rfl rfl 1 (by decide) (hts _ uw_3_132) (fun _ h9 => h9) rfl d_M_load_30 ?_
  refine lv_if_le (tgt := 38) hx hb d_M_load_33 (by decide) (fun c4 => ?_) (fun h => absurd h (by decide))
  refine lv_aload_n hx hb d_M_load_38 rfl (lv_at hl 0 rfl) ?_
  refine lv_iload_n hx hb d_M_load_39 rfl (lv_at hl 1 rfl) ?_
  refine lv_iload_n hx hb d_M_load_40 rfl (lv_at hl 2 rfl) ?_
  refine us_cV (q0 := 0) (As := [.int (nI j), .int (nI v)]) (rest := []) (N2 := 18) (fun u => [(mm, .inr (8, [.int mp, .int (0 : Int32), .int (nI n), .ref p1, .ref p2, .ref p3, .ref p4, .ref p5, .int (nI un), .ref p6, .ref p7, .ref p8, .int u.2.2.2.2.2.2.2.1, .ref p9, .ref p10, .ref p11, .int u.2.2.2.2.2.2.2.2.1, .ref p12, .ref p13, .ref p14, .ref p15, .ref p16, .ref p17, .ref p18, .ref p19, .ref p20, .ref p21, .int (nI he), .ref p22])), (p1, .inl (cI, 64, .inl MS)), (p2, .inl (cI, 68, .inl MT)), (p3, .inl (cI, 68, .inl MF)), (p4, .inl (cI, 68, .inl MU)), (p5, .inl (cI, 68, .inl MV)), (p6, .inl (cI, 12, .inl KD)), (p7, .inl (cI, 12, .inl KS)), (p9, .inl (cI, 4, .inl u.1)), (p10, .inl (cI, 4, .inl u.2.1)), (p11, .inl (cI, 4, .inl u.2.2.1)), (p12, .inl (cI, 8, .inl u.2.2.2.1)), (p13, .inl (cI, 8, .inl u.2.2.2.2.1)), (p14, .inl (cI, 8, .inl u.2.2.2.2.2.1)), (p15, .inl (cI, 8, .inl u.2.2.2.2.2.2.1)), (p16, .inl (cL, 8, .inr (.inl u.2.2.2.2.2.2.2.2.2))), (p17, .inl (cL, 8, .inr (.inl LA))), (p8, .inl (cI, 16, .inl SN))]) ⟨hx, hb, hml, hown, hts⟩ (m_foldStream zl dC dI cI cL cS cR mm p1 p2 p3 p4 p5 p6 p7 p8 p9 p10 p11 p12 p13 p14 p15 p16 p17 p18 p19 p20 p21 p22 mp (0 : Int32) cm ope n un he MS MT MF MU MV KD KS C1 C2 C3 O1 O2 O3 O4 SA j v es st hL hR hj (by omega)) (cwV 2 hts (us_gV uw_4_6 uw_4_8 uw_p_13 uw_1_10 k_M_foldStream) rfl rfl rfl h_M_foldStream ⟨by decide, by decide⟩) hK hP hD hS hA [0, 1, 2, 3, 4, 5, 6, 7, 8, 9, 10, 11, 12, 13, 14, 15] [0, 1, 2, 3, 4, 5, 6, 7, 8, 9, 10, 11, 12, 13, 14, 15] [16, 17] rfl (by decide) (fun _ => rfl) [(p17, .inl (cL, 8, .inr (.inl LA))), (p8, .inl (cI, 16, .inl SN))] (fun _ => rfl) rfl (fun _ => rfl) (by decide) (by decide) rfl rfl rfl hl.1 rfl (Nat.le_of_ble_eq_true rfl) d_M_load_41 ⟨by decide, by decide⟩ (fun u H locs w41 hP hD hS => ?_)
  obtain ⟨D1, D2, D3, Q1, Q2, Q3, Q4, cv, ov, S2⟩ := u
  have hP : va_P (dC, dI) vwCl [(mm, .inr (8, [.int mp, .int (0 : Int32), .int (nI n), .ref p1, .ref p2, .ref p3, .ref p4, .ref p5, .int (nI un), .ref p6, .ref p7, .ref p8, .int cv, .ref p9, .ref p10, .ref p11, .int ov, .ref p12, .ref p13, .ref p14, .ref p15, .ref p16, .ref p17, .ref p18, .ref p19, .ref p20, .ref p21, .int (nI he), .ref p22])), (p1, .inl (cI, 64, .inl MS)), (p2, .inl (cI, 68, .inl MT)), (p3, .inl (cI, 68, .inl MF)), (p4, .inl (cI, 68, .inl MU)), (p5, .inl (cI, 68, .inl MV)), (p6, .inl (cI, 12, .inl KD)), (p7, .inl (cI, 12, .inl KS)), (p9, .inl (cI, 4, .inl D1)), (p10, .inl (cI, 4, .inl D2)), (p11, .inl (cI, 4, .inl D3)), (p12, .inl (cI, 8, .inl Q1)), (p13, .inl (cI, 8, .inl Q2)), (p14, .inl (cI, 8, .inl Q3)), (p15, .inl (cI, 8, .inl Q4)), (p16, .inl (cL, 8, .inr (.inl S2))), (p17, .inl (cL, 8, .inr (.inl LA))), (p8, .inl (cI, 16, .inl SN))] H := hP
  have hD : va_D zA [(mm, .inr (8, [.int mp, .int (0 : Int32), .int (nI n), .ref p1, .ref p2, .ref p3, .ref p4, .ref p5, .int (nI un), .ref p6, .ref p7, .ref p8, .int cv, .ref p9, .ref p10, .ref p11, .int ov, .ref p12, .ref p13, .ref p14, .ref p15, .ref p16, .ref p17, .ref p18, .ref p19, .ref p20, .ref p21, .int (nI he), .ref p22])), (p1, .inl (cI, 64, .inl MS)), (p2, .inl (cI, 68, .inl MT)), (p3, .inl (cI, 68, .inl MF)), (p4, .inl (cI, 68, .inl MU)), (p5, .inl (cI, 68, .inl MV)), (p6, .inl (cI, 12, .inl KD)), (p7, .inl (cI, 12, .inl KS)), (p9, .inl (cI, 4, .inl D1)), (p10, .inl (cI, 4, .inl D2)), (p11, .inl (cI, 4, .inl D3)), (p12, .inl (cI, 8, .inl Q1)), (p13, .inl (cI, 8, .inl Q2)), (p14, .inl (cI, 8, .inl Q3)), (p15, .inl (cI, 8, .inl Q4)), (p16, .inl (cL, 8, .inr (.inl S2))), (p17, .inl (cL, 8, .inr (.inl LA))), (p8, .inl (cI, 16, .inl SN))] := hD
  try dsimp only at w41
  refine W.eq (g2 := F0 zm 44 ls []) rfl ?_
  refine lv_iconst (v := (0 : Int32)) hx hb d_M_load_44 (by decide) ?_
  refine lv_istore_n (lv' := [(3, .int (0 : Int32)), (0, .ref mm), (1, .int (nI j)), (2, .int (nI v))]) hx hb d_M_load_45 rfl hl (by decide) rfl (fun ls hl => ?_)
  refine lv_iload_n hx hb d_M_load_46 rfl (lv_at hl 0 rfl) ?_
  refine lv_bipush (v := (8 : Int32)) hx hb d_M_load_47 (by decide) ?_
  refine lv_icmp_ge (tgt := 70) hx hb d_M_load_49 (by decide) (fun h => absurd h (by decide)) (fun c5 => ?_)
  refine lv_aload_n hx hb d_M_load_52 rfl (lv_at hl 1 rfl) ?_
  refine va_get (D := (dC, dI)) (ci := 8) (v := .ref p17) (C := "UpcastStreamsModel") (T := F_M) (N := 29) hx hb hts in_M hown hK hP 0 rfl rfl 22 (by decide) (hts _ uw_3_153) (fun _ h9 => h9) rfl d_M_load_53 ?_
  refine lv_iload_n hx hb d_M_load_56 rfl (lv_at hl 0 rfl) ?_
  refine lv_aload_n hx hb d_M_load_57 rfl (lv_at hl 1 rfl) ?_
  refine va_get (D := (dC, dI)) (ci := 8) (v := .ref p16) (C := "UpcastStreamsModel") (T := F_M) (N := 29) hx hb hts in_M hown hK hP 0 rfl rfl 21 (by decide) (hts _ uw_3_152) (fun _ h9 => h9) rfl d_M_load_58 ?_
  refine lv_iload_n hx hb d_M_load_61 rfl (lv_at hl 0 rfl) ?_
  refine us_lald (j := 0) hx hb hK hP 15 1 rfl rfl (by unfold vp_in; decide) (by decide) d_M_load_62 ?_
  refine us_last (j := 0) hx hb hK hP hD hS 16 1 rfl rfl (by unfold vp_in; decide) (by decide) d_M_load_63 (fun H locs hP hD hS => ?_)
  have hP : va_P (dC, dI) vwCl [(mm, .inr (8, [.int mp, .int (0 : Int32), .int (nI n), .ref p1, .ref p2, .ref p3, .ref p4, .ref p5, .int (nI un), .ref p6, .ref p7, .ref p8, .int cv, .ref p9, .ref p10, .ref p11, .int ov, .ref p12, .ref p13, .ref p14, .ref p15, .ref p16, .ref p17, .ref p18, .ref p19, .ref p20, .ref p21, .int (nI he), .ref p22])), (p1, .inl (cI, 64, .inl MS)), (p2, .inl (cI, 68, .inl MT)), (p3, .inl (cI, 68, .inl MF)), (p4, .inl (cI, 68, .inl MU)), (p5, .inl (cI, 68, .inl MV)), (p6, .inl (cI, 12, .inl KD)), (p7, .inl (cI, 12, .inl KS)), (p9, .inl (cI, 4, .inl D1)), (p10, .inl (cI, 4, .inl D2)), (p11, .inl (cI, 4, .inl D3)), (p12, .inl (cI, 8, .inl Q1)), (p13, .inl (cI, 8, .inl Q2)), (p14, .inl (cI, 8, .inl Q3)), (p15, .inl (cI, 8, .inl Q4)), (p16, .inl (cL, 8, .inr (.inl S2))), (p17, .inl (cL, 8, .inr (.inl (vp_updL LA 0 (S2 0))))), (p8, .inl (cI, 16, .inl SN))] H := hP
  have hD : va_D zA [(mm, .inr (8, [.int mp, .int (0 : Int32), .int (nI n), .ref p1, .ref p2, .ref p3, .ref p4, .ref p5, .int (nI un), .ref p6, .ref p7, .ref p8, .int cv, .ref p9, .ref p10, .ref p11, .int ov, .ref p12, .ref p13, .ref p14, .ref p15, .ref p16, .ref p17, .ref p18, .ref p19, .ref p20, .ref p21, .int (nI he), .ref p22])), (p1, .inl (cI, 64, .inl MS)), (p2, .inl (cI, 68, .inl MT)), (p3, .inl (cI, 68, .inl MF)), (p4, .inl (cI, 68, .inl MU)), (p5, .inl (cI, 68, .inl MV)), (p6, .inl (cI, 12, .inl KD)), (p7, .inl (cI, 12, .inl KS)), (p9, .inl (cI, 4, .inl D1)), (p10, .inl (cI, 4, .inl D2)), (p11, .inl (cI, 4, .inl D3)), (p12, .inl (cI, 8, .inl Q1)), (p13, .inl (cI, 8, .inl Q2)), (p14, .inl (cI, 8, .inl Q3)), (p15, .inl (cI, 8, .inl Q4)), (p16, .inl (cL, 8, .inr (.inl S2))), (p17, .inl (cL, 8, .inr (.inl (vp_updL LA 0 (S2 0))))), (p8, .inl (cI, 16, .inl SN))] := hD
  refine lv_iinc (k := 0) (v := (1 : Int32)) (lv' := [(3, .int (1 : Int32)), (0, .ref mm), (1, .int (nI j)), (2, .int (nI v))]) hx hb d_M_load_64 hl rfl (by decide) (by decide) rfl (fun ls hl => ?_)
  refine lv_goto (tgt := 46) hx hb d_M_load_67 (by decide) ?_
  refine lv_iload_n hx hb d_M_load_46 rfl (lv_at hl 0 rfl) ?_
  refine lv_bipush (v := (8 : Int32)) hx hb d_M_load_47 (by decide) ?_
  refine lv_icmp_ge (tgt := 70) hx hb d_M_load_49 (by decide) (fun h => absurd h (by decide)) (fun c6 => ?_)
  refine lv_aload_n hx hb d_M_load_52 rfl (lv_at hl 1 rfl) ?_
  refine va_get (D := (dC, dI)) (ci := 8) (v := .ref p17) (C := "UpcastStreamsModel") (T := F_M) (N := 29) hx hb hts in_M hown hK hP 0 rfl rfl 22 (by decide) (hts _ uw_3_153) (fun _ h9 => h9) rfl d_M_load_53 ?_
  refine lv_iload_n hx hb d_M_load_56 rfl (lv_at hl 0 rfl) ?_
  refine lv_aload_n hx hb d_M_load_57 rfl (lv_at hl 1 rfl) ?_
  refine va_get (D := (dC, dI)) (ci := 8) (v := .ref p16) (C := "UpcastStreamsModel") (T := F_M) (N := 29) hx hb hts in_M hown hK hP 0 rfl rfl 21 (by decide) (hts _ uw_3_152) (fun _ h9 => h9) rfl d_M_load_58 ?_
  refine lv_iload_n hx hb d_M_load_61 rfl (lv_at hl 0 rfl) ?_
  refine us_lald (j := 1) hx hb hK hP 15 1 rfl rfl (by unfold vp_in; decide) (by decide) d_M_load_62 ?_
  refine us_last (j := 1) hx hb hK hP hD hS 16 1 rfl rfl (by unfold vp_in; decide) (by decide) d_M_load_63 (fun H locs hP hD hS => ?_)
  have hP : va_P (dC, dI) vwCl [(mm, .inr (8, [.int mp, .int (0 : Int32), .int (nI n), .ref p1, .ref p2, .ref p3, .ref p4, .ref p5, .int (nI un), .ref p6, .ref p7, .ref p8, .int cv, .ref p9, .ref p10, .ref p11, .int ov, .ref p12, .ref p13, .ref p14, .ref p15, .ref p16, .ref p17, .ref p18, .ref p19, .ref p20, .ref p21, .int (nI he), .ref p22])), (p1, .inl (cI, 64, .inl MS)), (p2, .inl (cI, 68, .inl MT)), (p3, .inl (cI, 68, .inl MF)), (p4, .inl (cI, 68, .inl MU)), (p5, .inl (cI, 68, .inl MV)), (p6, .inl (cI, 12, .inl KD)), (p7, .inl (cI, 12, .inl KS)), (p9, .inl (cI, 4, .inl D1)), (p10, .inl (cI, 4, .inl D2)), (p11, .inl (cI, 4, .inl D3)), (p12, .inl (cI, 8, .inl Q1)), (p13, .inl (cI, 8, .inl Q2)), (p14, .inl (cI, 8, .inl Q3)), (p15, .inl (cI, 8, .inl Q4)), (p16, .inl (cL, 8, .inr (.inl S2))), (p17, .inl (cL, 8, .inr (.inl (vp_updL (vp_updL LA 0 (S2 0)) 1 (S2 1))))), (p8, .inl (cI, 16, .inl SN))] H := hP
  have hD : va_D zA [(mm, .inr (8, [.int mp, .int (0 : Int32), .int (nI n), .ref p1, .ref p2, .ref p3, .ref p4, .ref p5, .int (nI un), .ref p6, .ref p7, .ref p8, .int cv, .ref p9, .ref p10, .ref p11, .int ov, .ref p12, .ref p13, .ref p14, .ref p15, .ref p16, .ref p17, .ref p18, .ref p19, .ref p20, .ref p21, .int (nI he), .ref p22])), (p1, .inl (cI, 64, .inl MS)), (p2, .inl (cI, 68, .inl MT)), (p3, .inl (cI, 68, .inl MF)), (p4, .inl (cI, 68, .inl MU)), (p5, .inl (cI, 68, .inl MV)), (p6, .inl (cI, 12, .inl KD)), (p7, .inl (cI, 12, .inl KS)), (p9, .inl (cI, 4, .inl D1)), (p10, .inl (cI, 4, .inl D2)), (p11, .inl (cI, 4, .inl D3)), (p12, .inl (cI, 8, .inl Q1)), (p13, .inl (cI, 8, .inl Q2)), (p14, .inl (cI, 8, .inl Q3)), (p15, .inl (cI, 8, .inl Q4)), (p16, .inl (cL, 8, .inr (.inl S2))), (p17, .inl (cL, 8, .inr (.inl (vp_updL (vp_updL LA 0 (S2 0)) 1 (S2 1))))), (p8, .inl (cI, 16, .inl SN))] := hD
  refine lv_iinc (k := 0) (v := (2 : Int32)) (lv' := [(3, .int (2 : Int32)), (0, .ref mm), (1, .int (nI j)), (2, .int (nI v))]) hx hb d_M_load_64 hl rfl (by decide) (by decide) rfl (fun ls hl => ?_)
  refine lv_goto (tgt := 46) hx hb d_M_load_67 (by decide) ?_
  refine lv_iload_n hx hb d_M_load_46 rfl (lv_at hl 0 rfl) ?_
  refine lv_bipush (v := (8 : Int32)) hx hb d_M_load_47 (by decide) ?_
  refine lv_icmp_ge (tgt := 70) hx hb d_M_load_49 (by decide) (fun h => absurd h (by decide)) (fun c7 => ?_)
  refine lv_aload_n hx hb d_M_load_52 rfl (lv_at hl 1 rfl) ?_
  refine va_get (D := (dC, dI)) (ci := 8) (v := .ref p17) (C := "UpcastStreamsModel") (T := F_M) (N := 29) hx hb hts in_M hown hK hP 0 rfl rfl 22 (by decide) (hts _ uw_3_153) (fun _ h9 => h9) rfl d_M_load_53 ?_
  refine lv_iload_n hx hb d_M_load_56 rfl (lv_at hl 0 rfl) ?_
  refine lv_aload_n hx hb d_M_load_57 rfl (lv_at hl 1 rfl) ?_
  refine va_get (D := (dC, dI)) (ci := 8) (v := .ref p16) (C := "UpcastStreamsModel") (T := F_M) (N := 29) hx hb hts in_M hown hK hP 0 rfl rfl 21 (by decide) (hts _ uw_3_152) (fun _ h9 => h9) rfl d_M_load_58 ?_
  refine lv_iload_n hx hb d_M_load_61 rfl (lv_at hl 0 rfl) ?_
  refine us_lald (j := 2) hx hb hK hP 15 1 rfl rfl (by unfold vp_in; decide) (by decide) d_M_load_62 ?_
  refine us_last (j := 2) hx hb hK hP hD hS 16 1 rfl rfl (by unfold vp_in; decide) (by decide) d_M_load_63 (fun H locs hP hD hS => ?_)
  have hP : va_P (dC, dI) vwCl [(mm, .inr (8, [.int mp, .int (0 : Int32), .int (nI n), .ref p1, .ref p2, .ref p3, .ref p4, .ref p5, .int (nI un), .ref p6, .ref p7, .ref p8, .int cv, .ref p9, .ref p10, .ref p11, .int ov, .ref p12, .ref p13, .ref p14, .ref p15, .ref p16, .ref p17, .ref p18, .ref p19, .ref p20, .ref p21, .int (nI he), .ref p22])), (p1, .inl (cI, 64, .inl MS)), (p2, .inl (cI, 68, .inl MT)), (p3, .inl (cI, 68, .inl MF)), (p4, .inl (cI, 68, .inl MU)), (p5, .inl (cI, 68, .inl MV)), (p6, .inl (cI, 12, .inl KD)), (p7, .inl (cI, 12, .inl KS)), (p9, .inl (cI, 4, .inl D1)), (p10, .inl (cI, 4, .inl D2)), (p11, .inl (cI, 4, .inl D3)), (p12, .inl (cI, 8, .inl Q1)), (p13, .inl (cI, 8, .inl Q2)), (p14, .inl (cI, 8, .inl Q3)), (p15, .inl (cI, 8, .inl Q4)), (p16, .inl (cL, 8, .inr (.inl S2))), (p17, .inl (cL, 8, .inr (.inl (vp_updL (vp_updL (vp_updL LA 0 (S2 0)) 1 (S2 1)) 2 (S2 2))))), (p8, .inl (cI, 16, .inl SN))] H := hP
  have hD : va_D zA [(mm, .inr (8, [.int mp, .int (0 : Int32), .int (nI n), .ref p1, .ref p2, .ref p3, .ref p4, .ref p5, .int (nI un), .ref p6, .ref p7, .ref p8, .int cv, .ref p9, .ref p10, .ref p11, .int ov, .ref p12, .ref p13, .ref p14, .ref p15, .ref p16, .ref p17, .ref p18, .ref p19, .ref p20, .ref p21, .int (nI he), .ref p22])), (p1, .inl (cI, 64, .inl MS)), (p2, .inl (cI, 68, .inl MT)), (p3, .inl (cI, 68, .inl MF)), (p4, .inl (cI, 68, .inl MU)), (p5, .inl (cI, 68, .inl MV)), (p6, .inl (cI, 12, .inl KD)), (p7, .inl (cI, 12, .inl KS)), (p9, .inl (cI, 4, .inl D1)), (p10, .inl (cI, 4, .inl D2)), (p11, .inl (cI, 4, .inl D3)), (p12, .inl (cI, 8, .inl Q1)), (p13, .inl (cI, 8, .inl Q2)), (p14, .inl (cI, 8, .inl Q3)), (p15, .inl (cI, 8, .inl Q4)), (p16, .inl (cL, 8, .inr (.inl S2))), (p17, .inl (cL, 8, .inr (.inl (vp_updL (vp_updL (vp_updL LA 0 (S2 0)) 1 (S2 1)) 2 (S2 2))))), (p8, .inl (cI, 16, .inl SN))] := hD
  refine lv_iinc (k := 0) (v := (3 : Int32)) (lv' := [(3, .int (3 : Int32)), (0, .ref mm), (1, .int (nI j)), (2, .int (nI v))]) hx hb d_M_load_64 hl rfl (by decide) (by decide) rfl (fun ls hl => ?_)
  refine lv_goto (tgt := 46) hx hb d_M_load_67 (by decide) ?_
  refine lv_iload_n hx hb d_M_load_46 rfl (lv_at hl 0 rfl) ?_
  refine lv_bipush (v := (8 : Int32)) hx hb d_M_load_47 (by decide) ?_
  refine lv_icmp_ge (tgt := 70) hx hb d_M_load_49 (by decide) (fun h => absurd h (by decide)) (fun c8 => ?_)
  refine lv_aload_n hx hb d_M_load_52 rfl (lv_at hl 1 rfl) ?_
  refine va_get (D := (dC, dI)) (ci := 8) (v := .ref p17) (C := "UpcastStreamsModel") (T := F_M) (N := 29) hx hb hts in_M hown hK hP 0 rfl rfl 22 (by decide) (hts _ uw_3_153) (fun _ h9 => h9) rfl d_M_load_53 ?_
  refine lv_iload_n hx hb d_M_load_56 rfl (lv_at hl 0 rfl) ?_
  refine lv_aload_n hx hb d_M_load_57 rfl (lv_at hl 1 rfl) ?_
  refine va_get (D := (dC, dI)) (ci := 8) (v := .ref p16) (C := "UpcastStreamsModel") (T := F_M) (N := 29) hx hb hts in_M hown hK hP 0 rfl rfl 21 (by decide) (hts _ uw_3_152) (fun _ h9 => h9) rfl d_M_load_58 ?_
  refine lv_iload_n hx hb d_M_load_61 rfl (lv_at hl 0 rfl) ?_
  refine us_lald (j := 3) hx hb hK hP 15 1 rfl rfl (by unfold vp_in; decide) (by decide) d_M_load_62 ?_
  refine us_last (j := 3) hx hb hK hP hD hS 16 1 rfl rfl (by unfold vp_in; decide) (by decide) d_M_load_63 (fun H locs hP hD hS => ?_)
  have hP : va_P (dC, dI) vwCl [(mm, .inr (8, [.int mp, .int (0 : Int32), .int (nI n), .ref p1, .ref p2, .ref p3, .ref p4, .ref p5, .int (nI un), .ref p6, .ref p7, .ref p8, .int cv, .ref p9, .ref p10, .ref p11, .int ov, .ref p12, .ref p13, .ref p14, .ref p15, .ref p16, .ref p17, .ref p18, .ref p19, .ref p20, .ref p21, .int (nI he), .ref p22])), (p1, .inl (cI, 64, .inl MS)), (p2, .inl (cI, 68, .inl MT)), (p3, .inl (cI, 68, .inl MF)), (p4, .inl (cI, 68, .inl MU)), (p5, .inl (cI, 68, .inl MV)), (p6, .inl (cI, 12, .inl KD)), (p7, .inl (cI, 12, .inl KS)), (p9, .inl (cI, 4, .inl D1)), (p10, .inl (cI, 4, .inl D2)), (p11, .inl (cI, 4, .inl D3)), (p12, .inl (cI, 8, .inl Q1)), (p13, .inl (cI, 8, .inl Q2)), (p14, .inl (cI, 8, .inl Q3)), (p15, .inl (cI, 8, .inl Q4)), (p16, .inl (cL, 8, .inr (.inl S2))), (p17, .inl (cL, 8, .inr (.inl (vp_updL (vp_updL (vp_updL (vp_updL LA 0 (S2 0)) 1 (S2 1)) 2 (S2 2)) 3 (S2 3))))), (p8, .inl (cI, 16, .inl SN))] H := hP
  have hD : va_D zA [(mm, .inr (8, [.int mp, .int (0 : Int32), .int (nI n), .ref p1, .ref p2, .ref p3, .ref p4, .ref p5, .int (nI un), .ref p6, .ref p7, .ref p8, .int cv, .ref p9, .ref p10, .ref p11, .int ov, .ref p12, .ref p13, .ref p14, .ref p15, .ref p16, .ref p17, .ref p18, .ref p19, .ref p20, .ref p21, .int (nI he), .ref p22])), (p1, .inl (cI, 64, .inl MS)), (p2, .inl (cI, 68, .inl MT)), (p3, .inl (cI, 68, .inl MF)), (p4, .inl (cI, 68, .inl MU)), (p5, .inl (cI, 68, .inl MV)), (p6, .inl (cI, 12, .inl KD)), (p7, .inl (cI, 12, .inl KS)), (p9, .inl (cI, 4, .inl D1)), (p10, .inl (cI, 4, .inl D2)), (p11, .inl (cI, 4, .inl D3)), (p12, .inl (cI, 8, .inl Q1)), (p13, .inl (cI, 8, .inl Q2)), (p14, .inl (cI, 8, .inl Q3)), (p15, .inl (cI, 8, .inl Q4)), (p16, .inl (cL, 8, .inr (.inl S2))), (p17, .inl (cL, 8, .inr (.inl (vp_updL (vp_updL (vp_updL (vp_updL LA 0 (S2 0)) 1 (S2 1)) 2 (S2 2)) 3 (S2 3))))), (p8, .inl (cI, 16, .inl SN))] := hD
  refine lv_iinc (k := 0) (v := (4 : Int32)) (lv' := [(3, .int (4 : Int32)), (0, .ref mm), (1, .int (nI j)), (2, .int (nI v))]) hx hb d_M_load_64 hl rfl (by decide) (by decide) rfl (fun ls hl => ?_)
  refine lv_goto (tgt := 46) hx hb d_M_load_67 (by decide) ?_
  refine lv_iload_n hx hb d_M_load_46 rfl (lv_at hl 0 rfl) ?_
  refine lv_bipush (v := (8 : Int32)) hx hb d_M_load_47 (by decide) ?_
  refine lv_icmp_ge (tgt := 70) hx hb d_M_load_49 (by decide) (fun h => absurd h (by decide)) (fun c9 => ?_)
  refine lv_aload_n hx hb d_M_load_52 rfl (lv_at hl 1 rfl) ?_
  refine va_get (D := (dC, dI)) (ci := 8) (v := .ref p17) (C := "UpcastStreamsModel") (T := F_M) (N := 29) hx hb hts in_M hown hK hP 0 rfl rfl 22 (by decide) (hts _ uw_3_153) (fun _ h9 => h9) rfl d_M_load_53 ?_
  refine lv_iload_n hx hb d_M_load_56 rfl (lv_at hl 0 rfl) ?_
  refine lv_aload_n hx hb d_M_load_57 rfl (lv_at hl 1 rfl) ?_
  refine va_get (D := (dC, dI)) (ci := 8) (v := .ref p16) (C := "UpcastStreamsModel") (T := F_M) (N := 29) hx hb hts in_M hown hK hP 0 rfl rfl 21 (by decide) (hts _ uw_3_152) (fun _ h9 => h9) rfl d_M_load_58 ?_
  refine lv_iload_n hx hb d_M_load_61 rfl (lv_at hl 0 rfl) ?_
  refine us_lald (j := 4) hx hb hK hP 15 1 rfl rfl (by unfold vp_in; decide) (by decide) d_M_load_62 ?_
  refine us_last (j := 4) hx hb hK hP hD hS 16 1 rfl rfl (by unfold vp_in; decide) (by decide) d_M_load_63 (fun H locs hP hD hS => ?_)
  have hP : va_P (dC, dI) vwCl [(mm, .inr (8, [.int mp, .int (0 : Int32), .int (nI n), .ref p1, .ref p2, .ref p3, .ref p4, .ref p5, .int (nI un), .ref p6, .ref p7, .ref p8, .int cv, .ref p9, .ref p10, .ref p11, .int ov, .ref p12, .ref p13, .ref p14, .ref p15, .ref p16, .ref p17, .ref p18, .ref p19, .ref p20, .ref p21, .int (nI he), .ref p22])), (p1, .inl (cI, 64, .inl MS)), (p2, .inl (cI, 68, .inl MT)), (p3, .inl (cI, 68, .inl MF)), (p4, .inl (cI, 68, .inl MU)), (p5, .inl (cI, 68, .inl MV)), (p6, .inl (cI, 12, .inl KD)), (p7, .inl (cI, 12, .inl KS)), (p9, .inl (cI, 4, .inl D1)), (p10, .inl (cI, 4, .inl D2)), (p11, .inl (cI, 4, .inl D3)), (p12, .inl (cI, 8, .inl Q1)), (p13, .inl (cI, 8, .inl Q2)), (p14, .inl (cI, 8, .inl Q3)), (p15, .inl (cI, 8, .inl Q4)), (p16, .inl (cL, 8, .inr (.inl S2))), (p17, .inl (cL, 8, .inr (.inl (vp_updL (vp_updL (vp_updL (vp_updL (vp_updL LA 0 (S2 0)) 1 (S2 1)) 2 (S2 2)) 3 (S2 3)) 4 (S2 4))))), (p8, .inl (cI, 16, .inl SN))] H := hP
  have hD : va_D zA [(mm, .inr (8, [.int mp, .int (0 : Int32), .int (nI n), .ref p1, .ref p2, .ref p3, .ref p4, .ref p5, .int (nI un), .ref p6, .ref p7, .ref p8, .int cv, .ref p9, .ref p10, .ref p11, .int ov, .ref p12, .ref p13, .ref p14, .ref p15, .ref p16, .ref p17, .ref p18, .ref p19, .ref p20, .ref p21, .int (nI he), .ref p22])), (p1, .inl (cI, 64, .inl MS)), (p2, .inl (cI, 68, .inl MT)), (p3, .inl (cI, 68, .inl MF)), (p4, .inl (cI, 68, .inl MU)), (p5, .inl (cI, 68, .inl MV)), (p6, .inl (cI, 12, .inl KD)), (p7, .inl (cI, 12, .inl KS)), (p9, .inl (cI, 4, .inl D1)), (p10, .inl (cI, 4, .inl D2)), (p11, .inl (cI, 4, .inl D3)), (p12, .inl (cI, 8, .inl Q1)), (p13, .inl (cI, 8, .inl Q2)), (p14, .inl (cI, 8, .inl Q3)), (p15, .inl (cI, 8, .inl Q4)), (p16, .inl (cL, 8, .inr (.inl S2))), (p17, .inl (cL, 8, .inr (.inl (vp_updL (vp_updL (vp_updL (vp_updL (vp_updL LA 0 (S2 0)) 1 (S2 1)) 2 (S2 2)) 3 (S2 3)) 4 (S2 4))))), (p8, .inl (cI, 16, .inl SN))] := hD
  refine lv_iinc (k := 0) (v := (5 : Int32)) (lv' := [(3, .int (5 : Int32)), (0, .ref mm), (1, .int (nI j)), (2, .int (nI v))]) hx hb d_M_load_64 hl rfl (by decide) (by decide) rfl (fun ls hl => ?_)
  refine lv_goto (tgt := 46) hx hb d_M_load_67 (by decide) ?_
  refine lv_iload_n hx hb d_M_load_46 rfl (lv_at hl 0 rfl) ?_
  refine lv_bipush (v := (8 : Int32)) hx hb d_M_load_47 (by decide) ?_
  refine lv_icmp_ge (tgt := 70) hx hb d_M_load_49 (by decide) (fun h => absurd h (by decide)) (fun c10 => ?_)
  refine lv_aload_n hx hb d_M_load_52 rfl (lv_at hl 1 rfl) ?_
  refine va_get (D := (dC, dI)) (ci := 8) (v := .ref p17) (C := "UpcastStreamsModel") (T := F_M) (N := 29) hx hb hts in_M hown hK hP 0 rfl rfl 22 (by decide) (hts _ uw_3_153) (fun _ h9 => h9) rfl d_M_load_53 ?_
  refine lv_iload_n hx hb d_M_load_56 rfl (lv_at hl 0 rfl) ?_
  refine lv_aload_n hx hb d_M_load_57 rfl (lv_at hl 1 rfl) ?_
  refine va_get (D := (dC, dI)) (ci := 8) (v := .ref p16) (C := "UpcastStreamsModel") (T := F_M) (N := 29) hx hb hts in_M hown hK hP 0 rfl rfl 21 (by decide) (hts _ uw_3_152) (fun _ h9 => h9) rfl d_M_load_58 ?_
  refine lv_iload_n hx hb d_M_load_61 rfl (lv_at hl 0 rfl) ?_
  refine us_lald (j := 5) hx hb hK hP 15 1 rfl rfl (by unfold vp_in; decide) (by decide) d_M_load_62 ?_
  refine us_last (j := 5) hx hb hK hP hD hS 16 1 rfl rfl (by unfold vp_in; decide) (by decide) d_M_load_63 (fun H locs hP hD hS => ?_)
  have hP : va_P (dC, dI) vwCl [(mm, .inr (8, [.int mp, .int (0 : Int32), .int (nI n), .ref p1, .ref p2, .ref p3, .ref p4, .ref p5, .int (nI un), .ref p6, .ref p7, .ref p8, .int cv, .ref p9, .ref p10, .ref p11, .int ov, .ref p12, .ref p13, .ref p14, .ref p15, .ref p16, .ref p17, .ref p18, .ref p19, .ref p20, .ref p21, .int (nI he), .ref p22])), (p1, .inl (cI, 64, .inl MS)), (p2, .inl (cI, 68, .inl MT)), (p3, .inl (cI, 68, .inl MF)), (p4, .inl (cI, 68, .inl MU)), (p5, .inl (cI, 68, .inl MV)), (p6, .inl (cI, 12, .inl KD)), (p7, .inl (cI, 12, .inl KS)), (p9, .inl (cI, 4, .inl D1)), (p10, .inl (cI, 4, .inl D2)), (p11, .inl (cI, 4, .inl D3)), (p12, .inl (cI, 8, .inl Q1)), (p13, .inl (cI, 8, .inl Q2)), (p14, .inl (cI, 8, .inl Q3)), (p15, .inl (cI, 8, .inl Q4)), (p16, .inl (cL, 8, .inr (.inl S2))), (p17, .inl (cL, 8, .inr (.inl (vp_updL (vp_updL (vp_updL (vp_updL (vp_updL (vp_updL LA 0 (S2 0)) 1 (S2 1)) 2 (S2 2)) 3 (S2 3)) 4 (S2 4)) 5 (S2 5))))), (p8, .inl (cI, 16, .inl SN))] H := hP
  have hD : va_D zA [(mm, .inr (8, [.int mp, .int (0 : Int32), .int (nI n), .ref p1, .ref p2, .ref p3, .ref p4, .ref p5, .int (nI un), .ref p6, .ref p7, .ref p8, .int cv, .ref p9, .ref p10, .ref p11, .int ov, .ref p12, .ref p13, .ref p14, .ref p15, .ref p16, .ref p17, .ref p18, .ref p19, .ref p20, .ref p21, .int (nI he), .ref p22])), (p1, .inl (cI, 64, .inl MS)), (p2, .inl (cI, 68, .inl MT)), (p3, .inl (cI, 68, .inl MF)), (p4, .inl (cI, 68, .inl MU)), (p5, .inl (cI, 68, .inl MV)), (p6, .inl (cI, 12, .inl KD)), (p7, .inl (cI, 12, .inl KS)), (p9, .inl (cI, 4, .inl D1)), (p10, .inl (cI, 4, .inl D2)), (p11, .inl (cI, 4, .inl D3)), (p12, .inl (cI, 8, .inl Q1)), (p13, .inl (cI, 8, .inl Q2)), (p14, .inl (cI, 8, .inl Q3)), (p15, .inl (cI, 8, .inl Q4)), (p16, .inl (cL, 8, .inr (.inl S2))), (p17, .inl (cL, 8, .inr (.inl (vp_updL (vp_updL (vp_updL (vp_updL (vp_updL (vp_updL LA 0 (S2 0)) 1 (S2 1)) 2 (S2 2)) 3 (S2 3)) 4 (S2 4)) 5 (S2 5))))), (p8, .inl (cI, 16, .inl SN))] := hD
  refine lv_iinc (k := 0) (v := (6 : Int32)) (lv' := [(3, .int (6 : Int32)), (0, .ref mm), (1, .int (nI j)), (2, .int (nI v))]) hx hb d_M_load_64 hl rfl (by decide) (by decide) rfl (fun ls hl => ?_)
  refine lv_goto (tgt := 46) hx hb d_M_load_67 (by decide) ?_
  refine lv_iload_n hx hb d_M_load_46 rfl (lv_at hl 0 rfl) ?_
  refine lv_bipush (v := (8 : Int32)) hx hb d_M_load_47 (by decide) ?_
  refine lv_icmp_ge (tgt := 70) hx hb d_M_load_49 (by decide) (fun h => absurd h (by decide)) (fun c11 => ?_)
  refine lv_aload_n hx hb d_M_load_52 rfl (lv_at hl 1 rfl) ?_
  refine va_get (D := (dC, dI)) (ci := 8) (v := .ref p17) (C := "UpcastStreamsModel") (T := F_M) (N := 29) hx hb hts in_M hown hK hP 0 rfl rfl 22 (by decide) (hts _ uw_3_153) (fun _ h9 => h9) rfl d_M_load_53 ?_
  refine lv_iload_n hx hb d_M_load_56 rfl (lv_at hl 0 rfl) ?_
  refine lv_aload_n hx hb d_M_load_57 rfl (lv_at hl 1 rfl) ?_
  refine va_get (D := (dC, dI)) (ci := 8) (v := .ref p16) (C := "UpcastStreamsModel") (T := F_M) (N := 29) hx hb hts in_M hown hK hP 0 rfl rfl 21 (by decide) (hts _ uw_3_152) (fun _ h9 => h9) rfl d_M_load_58 ?_
  refine lv_iload_n hx hb d_M_load_61 rfl (lv_at hl 0 rfl) ?_
  refine us_lald (j := 6) hx hb hK hP 15 1 rfl rfl (by unfold vp_in; decide) (by decide) d_M_load_62 ?_
  refine us_last (j := 6) hx hb hK hP hD hS 16 1 rfl rfl (by unfold vp_in; decide) (by decide) d_M_load_63 (fun H locs hP hD hS => ?_)
  have hP : va_P (dC, dI) vwCl [(mm, .inr (8, [.int mp, .int (0 : Int32), .int (nI n), .ref p1, .ref p2, .ref p3, .ref p4, .ref p5, .int (nI un), .ref p6, .ref p7, .ref p8, .int cv, .ref p9, .ref p10, .ref p11, .int ov, .ref p12, .ref p13, .ref p14, .ref p15, .ref p16, .ref p17, .ref p18, .ref p19, .ref p20, .ref p21, .int (nI he), .ref p22])), (p1, .inl (cI, 64, .inl MS)), (p2, .inl (cI, 68, .inl MT)), (p3, .inl (cI, 68, .inl MF)), (p4, .inl (cI, 68, .inl MU)), (p5, .inl (cI, 68, .inl MV)), (p6, .inl (cI, 12, .inl KD)), (p7, .inl (cI, 12, .inl KS)), (p9, .inl (cI, 4, .inl D1)), (p10, .inl (cI, 4, .inl D2)), (p11, .inl (cI, 4, .inl D3)), (p12, .inl (cI, 8, .inl Q1)), (p13, .inl (cI, 8, .inl Q2)), (p14, .inl (cI, 8, .inl Q3)), (p15, .inl (cI, 8, .inl Q4)), (p16, .inl (cL, 8, .inr (.inl S2))), (p17, .inl (cL, 8, .inr (.inl (vp_updL (vp_updL (vp_updL (vp_updL (vp_updL (vp_updL (vp_updL LA 0 (S2 0)) 1 (S2 1)) 2 (S2 2)) 3 (S2 3)) 4 (S2 4)) 5 (S2 5)) 6 (S2 6))))), (p8, .inl (cI, 16, .inl SN))] H := hP
  have hD : va_D zA [(mm, .inr (8, [.int mp, .int (0 : Int32), .int (nI n), .ref p1, .ref p2, .ref p3, .ref p4, .ref p5, .int (nI un), .ref p6, .ref p7, .ref p8, .int cv, .ref p9, .ref p10, .ref p11, .int ov, .ref p12, .ref p13, .ref p14, .ref p15, .ref p16, .ref p17, .ref p18, .ref p19, .ref p20, .ref p21, .int (nI he), .ref p22])), (p1, .inl (cI, 64, .inl MS)), (p2, .inl (cI, 68, .inl MT)), (p3, .inl (cI, 68, .inl MF)), (p4, .inl (cI, 68, .inl MU)), (p5, .inl (cI, 68, .inl MV)), (p6, .inl (cI, 12, .inl KD)), (p7, .inl (cI, 12, .inl KS)), (p9, .inl (cI, 4, .inl D1)), (p10, .inl (cI, 4, .inl D2)), (p11, .inl (cI, 4, .inl D3)), (p12, .inl (cI, 8, .inl Q1)), (p13, .inl (cI, 8, .inl Q2)), (p14, .inl (cI, 8, .inl Q3)), (p15, .inl (cI, 8, .inl Q4)), (p16, .inl (cL, 8, .inr (.inl S2))), (p17, .inl (cL, 8, .inr (.inl (vp_updL (vp_updL (vp_updL (vp_updL (vp_updL (vp_updL (vp_updL LA 0 (S2 0)) 1 (S2 1)) 2 (S2 2)) 3 (S2 3)) 4 (S2 4)) 5 (S2 5)) 6 (S2 6))))), (p8, .inl (cI, 16, .inl SN))] := hD
  refine lv_iinc (k := 0) (v := (7 : Int32)) (lv' := [(3, .int (7 : Int32)), (0, .ref mm), (1, .int (nI j)), (2, .int (nI v))]) hx hb d_M_load_64 hl rfl (by decide) (by decide) rfl (fun ls hl => ?_)
  refine lv_goto (tgt := 46) hx hb d_M_load_67 (by decide) ?_
  refine lv_iload_n hx hb d_M_load_46 rfl (lv_at hl 0 rfl) ?_
  refine lv_bipush (v := (8 : Int32)) hx hb d_M_load_47 (by decide) ?_
  refine lv_icmp_ge (tgt := 70) hx hb d_M_load_49 (by decide) (fun h => absurd h (by decide)) (fun c12 => ?_)
  refine lv_aload_n hx hb d_M_load_52 rfl (lv_at hl 1 rfl) ?_
  refine va_get (D := (dC, dI)) (ci := 8) (v := .ref p17) (C := "UpcastStreamsModel") (T := F_M) (N := 29) hx hb hts in_M hown hK hP 0 rfl rfl 22 (by decide) (hts _ uw_3_153) (fun _ h9 => h9) rfl d_M_load_53 ?_
  refine lv_iload_n hx hb d_M_load_56 rfl (lv_at hl 0 rfl) ?_
  refine lv_aload_n hx hb d_M_load_57 rfl (lv_at hl 1 rfl) ?_
  refine va_get (D := (dC, dI)) (ci := 8) (v := .ref p16) (C := "UpcastStreamsModel") (T := F_M) (N := 29) hx hb hts in_M hown hK hP 0 rfl rfl 21 (by decide) (hts _ uw_3_152) (fun _ h9 => h9) rfl d_M_load_58 ?_
  refine lv_iload_n hx hb d_M_load_61 rfl (lv_at hl 0 rfl) ?_
  refine us_lald (j := 7) hx hb hK hP 15 1 rfl rfl (by unfold vp_in; decide) (by decide) d_M_load_62 ?_
  refine us_last (j := 7) hx hb hK hP hD hS 16 1 rfl rfl (by unfold vp_in; decide) (by decide) d_M_load_63 (fun H locs hP hD hS => ?_)
  have hP : va_P (dC, dI) vwCl [(mm, .inr (8, [.int mp, .int (0 : Int32), .int (nI n), .ref p1, .ref p2, .ref p3, .ref p4, .ref p5, .int (nI un), .ref p6, .ref p7, .ref p8, .int cv, .ref p9, .ref p10, .ref p11, .int ov, .ref p12, .ref p13, .ref p14, .ref p15, .ref p16, .ref p17, .ref p18, .ref p19, .ref p20, .ref p21, .int (nI he), .ref p22])), (p1, .inl (cI, 64, .inl MS)), (p2, .inl (cI, 68, .inl MT)), (p3, .inl (cI, 68, .inl MF)), (p4, .inl (cI, 68, .inl MU)), (p5, .inl (cI, 68, .inl MV)), (p6, .inl (cI, 12, .inl KD)), (p7, .inl (cI, 12, .inl KS)), (p9, .inl (cI, 4, .inl D1)), (p10, .inl (cI, 4, .inl D2)), (p11, .inl (cI, 4, .inl D3)), (p12, .inl (cI, 8, .inl Q1)), (p13, .inl (cI, 8, .inl Q2)), (p14, .inl (cI, 8, .inl Q3)), (p15, .inl (cI, 8, .inl Q4)), (p16, .inl (cL, 8, .inr (.inl S2))), (p17, .inl (cL, 8, .inr (.inl (vp_updL (vp_updL (vp_updL (vp_updL (vp_updL (vp_updL (vp_updL (vp_updL LA 0 (S2 0)) 1 (S2 1)) 2 (S2 2)) 3 (S2 3)) 4 (S2 4)) 5 (S2 5)) 6 (S2 6)) 7 (S2 7))))), (p8, .inl (cI, 16, .inl SN))] H := hP
  have hD : va_D zA [(mm, .inr (8, [.int mp, .int (0 : Int32), .int (nI n), .ref p1, .ref p2, .ref p3, .ref p4, .ref p5, .int (nI un), .ref p6, .ref p7, .ref p8, .int cv, .ref p9, .ref p10, .ref p11, .int ov, .ref p12, .ref p13, .ref p14, .ref p15, .ref p16, .ref p17, .ref p18, .ref p19, .ref p20, .ref p21, .int (nI he), .ref p22])), (p1, .inl (cI, 64, .inl MS)), (p2, .inl (cI, 68, .inl MT)), (p3, .inl (cI, 68, .inl MF)), (p4, .inl (cI, 68, .inl MU)), (p5, .inl (cI, 68, .inl MV)), (p6, .inl (cI, 12, .inl KD)), (p7, .inl (cI, 12, .inl KS)), (p9, .inl (cI, 4, .inl D1)), (p10, .inl (cI, 4, .inl D2)), (p11, .inl (cI, 4, .inl D3)), (p12, .inl (cI, 8, .inl Q1)), (p13, .inl (cI, 8, .inl Q2)), (p14, .inl (cI, 8, .inl Q3)), (p15, .inl (cI, 8, .inl Q4)), (p16, .inl (cL, 8, .inr (.inl S2))), (p17, .inl (cL, 8, .inr (.inl (vp_updL (vp_updL (vp_updL (vp_updL (vp_updL (vp_updL (vp_updL (vp_updL LA 0 (S2 0)) 1 (S2 1)) 2 (S2 2)) 3 (S2 3)) 4 (S2 4)) 5 (S2 5)) 6 (S2 6)) 7 (S2 7))))), (p8, .inl (cI, 16, .inl SN))] := hD
  refine lv_iinc (k := 0) (v := (8 : Int32)) (lv' := [(3, .int (8 : Int32)), (0, .ref mm), (1, .int (nI j)), (2, .int (nI v))]) hx hb d_M_load_64 hl rfl (by decide) (by decide) rfl (fun ls hl => ?_)
  refine lv_goto (tgt := 46) hx hb d_M_load_67 (by decide) ?_
  refine lv_iload_n hx hb d_M_load_46 rfl (lv_at hl 0 rfl) ?_
  refine lv_bipush (v := (8 : Int32)) hx hb d_M_load_47 (by decide) ?_
  refine lv_icmp_ge (tgt := 70) hx hb d_M_load_49 (by decide) (fun c13 => ?_) (fun h => absurd h (by decide))
  refine lv_aload_n hx hb d_M_load_70 rfl (lv_at hl 1 rfl) ?_
  refine va_get (D := (dC, dI)) (ci := 8) (v := .ref p8) (C := "UpcastStreamsModel") (T := F_M) (N := 29) hx hb hts in_M hown hK hP 0 rfl rfl 11 (by decide) (hts _ uw_3_142) (fun _ h9 => h9) rfl d_M_load_71 ?_
  refine lv_iconst (v := (2 : Int32)) hx hb d_M_load_74 (by decide) ?_
  refine lv_iload_n hx hb d_M_load_75 rfl (lv_at hl 2 rfl) ?_
  refine lv_imul hx hb d_M_load_76 ?_
  refine us_top (show ((2 : Int32) * (nI j)) = (nI (2 * j)) from us_2j hj) ?_
  refine us_iald (j := 2 * j) hx hb hK hP 17 0 rfl rfl (vp_in_nI (by omega) (by omega)) (nI_clamp (by omega)) d_M_load_77 ?_
  refine lv_istore_n (lv' := [(3, .int (SN (2 * j))), (0, .ref mm), (1, .int (nI j)), (2, .int (nI v))]) hx hb d_M_load_78 rfl hl (by decide) rfl (fun ls hl => ?_)
  refine lv_aload_n hx hb d_M_load_79 rfl (lv_at hl 1 rfl) ?_
  refine va_get (D := (dC, dI)) (ci := 8) (v := .ref p8) (C := "UpcastStreamsModel") (T := F_M) (N := 29) hx hb hts in_M hown hK hP 0 rfl rfl 11 (by decide) (hts _ uw_3_142) (fun _ h9 => h9) rfl d_M_load_80 ?_
  refine lv_iconst (v := (2 : Int32)) hx hb d_M_load_83 (by decide) ?_
  refine lv_iload_n hx hb d_M_load_84 rfl (lv_at hl 2 rfl) ?_
  refine lv_imul hx hb d_M_load_85 ?_
  refine us_top (show ((2 : Int32) * (nI j)) = (nI (2 * j)) from us_2j hj) ?_
  refine lv_iconst (v := (1 : Int32)) hx hb d_M_load_86 (by decide) ?_
  refine lv_iadd hx hb d_M_load_87 ?_
  refine us_top (show ((nI (2 * j)) + (1 : Int32)) = (nI (2 * j + 1)) from nI_1 _) ?_
  refine us_iald (j := 2 * j + 1) hx hb hK hP 17 0 rfl rfl (vp_in_nI (by omega) (by omega)) (nI_clamp (by omega)) d_M_load_88 ?_
  refine lv_istore (lv' := [(4, .int (SN (2 * j + 1))), (3, .int (SN (2 * j))), (0, .ref mm), (1, .int (nI j)), (2, .int (nI v))]) hx hb d_M_load_89 hl (by decide) rfl (fun ls hl => ?_)
  refine lv_iload_n hx hb d_M_load_91 rfl (lv_at hl 1 rfl) ?_
  refine lv_if_lt (tgt := 104) hx hb d_M_load_92 (by decide) (fun c92 => ?_) (fun c92 => ?_)
  · refine lv_iload hx hb d_M_load_104 (lv_at hl 0 rfl) ?_
    refine lv_if_lt (tgt := 120) hx hb d_M_load_106 (by decide) (fun c106 => ?_) (fun c106 => ?_)
    · refine lv_iconst (v := (0 : Int32)) hx hb d_M_load_120 (by decide) ?_
      refine lv_istore (lv' := [(5, .int (0 : Int32)), (4, .int (SN (2 * j + 1))), (3, .int (SN (2 * j))), (0, .ref mm), (1, .int (nI j)), (2, .int (nI v))]) hx hb d_M_load_121 hl (by decide) rfl (fun ls hl => ?_)
      refine lv_iload_n hx hb d_M_load_123 rfl (lv_at hl 5 rfl) ?_
      refine lv_iload hx hb d_M_load_124 (lv_at hl 0 rfl) ?_
      refine lv_isub hx hb d_M_load_126 ?_
      exact us_iret hQ (by decide) (by decide) hx hb hr hlk hK hS (D1, D2, D3, Q1, Q2, Q3, Q4, cv, ov, S2, vp_updL (vp_updL (vp_updL (vp_updL (vp_updL (vp_updL (vp_updL (vp_updL LA 0 (S2 0)) 1 (S2 1)) 2 (S2 2)) 3 (S2 3)) 4 (S2 4)) 5 (S2 5)) 6 (S2 6)) 7 (S2 7), (nI v) - (0 : Int32)) rfl (⟨by obtain ⟨s0, s1, s2, s3, s4, s5, s6, s7⟩ := w41; refine ⟨?_, ?_, ?_, ?_, ?_, ?_, ?_, ?_⟩ <;> simp [vp_updL, s0, s1, s2, s3, s4, s5, s6, s7], by first | rw [us_mf_a c92 c97] | rw [us_mf_b (Or.inl c92) c106 c112] | rw [us_mf_b (Or.inr c97) c106 c112] | rw [us_mf_c (Or.inl c92) (Or.inl c106)] | rw [us_mf_c (Or.inl c92) (Or.inr c112)] | rw [us_mf_c (Or.inr c97) (Or.inl c106)] | rw [us_mf_c (Or.inr c97) (Or.inr c112)]⟩) hP hD d_M_load_127
    · refine lv_iload hx hb d_M_load_109 (lv_at hl 0 rfl) ?_
      refine lv_iload_n hx hb d_M_load_111 rfl (lv_at hl 4 rfl) ?_
      refine lv_icmp_gt (tgt := 120) hx hb d_M_load_112 (by decide) (fun c112 => ?_) (fun c112 => ?_)
      · refine lv_iconst (v := (0 : Int32)) hx hb d_M_load_120 (by decide) ?_
        refine lv_istore (lv' := [(5, .int (0 : Int32)), (4, .int (SN (2 * j + 1))), (3, .int (SN (2 * j))), (0, .ref mm), (1, .int (nI j)), (2, .int (nI v))]) hx hb d_M_load_121 hl (by decide) rfl (fun ls hl => ?_)
        refine lv_iload_n hx hb d_M_load_123 rfl (lv_at hl 5 rfl) ?_
        refine lv_iload hx hb d_M_load_124 (lv_at hl 0 rfl) ?_
        refine lv_isub hx hb d_M_load_126 ?_
        exact us_iret hQ (by decide) (by decide) hx hb hr hlk hK hS (D1, D2, D3, Q1, Q2, Q3, Q4, cv, ov, S2, vp_updL (vp_updL (vp_updL (vp_updL (vp_updL (vp_updL (vp_updL (vp_updL LA 0 (S2 0)) 1 (S2 1)) 2 (S2 2)) 3 (S2 3)) 4 (S2 4)) 5 (S2 5)) 6 (S2 6)) 7 (S2 7), (nI v) - (0 : Int32)) rfl (⟨by obtain ⟨s0, s1, s2, s3, s4, s5, s6, s7⟩ := w41; refine ⟨?_, ?_, ?_, ?_, ?_, ?_, ?_, ?_⟩ <;> simp [vp_updL, s0, s1, s2, s3, s4, s5, s6, s7], by first | rw [us_mf_a c92 c97] | rw [us_mf_b (Or.inl c92) c106 c112] | rw [us_mf_b (Or.inr c97) c106 c112] | rw [us_mf_c (Or.inl c92) (Or.inl c106)] | rw [us_mf_c (Or.inl c92) (Or.inr c112)] | rw [us_mf_c (Or.inr c97) (Or.inl c106)] | rw [us_mf_c (Or.inr c97) (Or.inr c112)]⟩) hP hD d_M_load_127
      · refine lv_iload hx hb d_M_load_115 (lv_at hl 0 rfl) ?_
        refine lv_goto (tgt := 121) hx hb d_M_load_117 (by decide) ?_
        refine lv_istore (lv' := [(5, .int (SN (2 * j + 1))), (4, .int (SN (2 * j + 1))), (3, .int (SN (2 * j))), (0, .ref mm), (1, .int (nI j)), (2, .int (nI v))]) hx hb d_M_load_121 hl (by decide) rfl (fun ls hl => ?_)
        refine lv_iload_n hx hb d_M_load_123 rfl (lv_at hl 5 rfl) ?_
        refine lv_iload hx hb d_M_load_124 (lv_at hl 0 rfl) ?_
        refine lv_isub hx hb d_M_load_126 ?_
        exact us_iret hQ (by decide) (by decide) hx hb hr hlk hK hS (D1, D2, D3, Q1, Q2, Q3, Q4, cv, ov, S2, vp_updL (vp_updL (vp_updL (vp_updL (vp_updL (vp_updL (vp_updL (vp_updL LA 0 (S2 0)) 1 (S2 1)) 2 (S2 2)) 3 (S2 3)) 4 (S2 4)) 5 (S2 5)) 6 (S2 6)) 7 (S2 7), (nI v) - (SN (2 * j + 1))) rfl (⟨by obtain ⟨s0, s1, s2, s3, s4, s5, s6, s7⟩ := w41; refine ⟨?_, ?_, ?_, ?_, ?_, ?_, ?_, ?_⟩ <;> simp [vp_updL, s0, s1, s2, s3, s4, s5, s6, s7], by first | rw [us_mf_a c92 c97] | rw [us_mf_b (Or.inl c92) c106 c112] | rw [us_mf_b (Or.inr c97) c106 c112] | rw [us_mf_c (Or.inl c92) (Or.inl c106)] | rw [us_mf_c (Or.inl c92) (Or.inr c112)] | rw [us_mf_c (Or.inr c97) (Or.inl c106)] | rw [us_mf_c (Or.inr c97) (Or.inr c112)]⟩) hP hD d_M_load_127
  · refine lv_iload_n hx hb d_M_load_95 rfl (lv_at hl 1 rfl) ?_
    refine lv_iload_n hx hb d_M_load_96 rfl (lv_at hl 4 rfl) ?_
    refine lv_icmp_gt (tgt := 104) hx hb d_M_load_97 (by decide) (fun c97 => ?_) (fun c97 => ?_)
    · refine lv_iload hx hb d_M_load_104 (lv_at hl 0 rfl) ?_
      refine lv_if_lt (tgt := 120) hx hb d_M_load_106 (by decide) (fun c106 => ?_) (fun c106 => ?_)
      · refine lv_iconst (v := (0 : Int32)) hx hb d_M_load_120 (by decide) ?_
        refine lv_istore (lv' := [(5, .int (0 : Int32)), (4, .int (SN (2 * j + 1))), (3, .int (SN (2 * j))), (0, .ref mm), (1, .int (nI j)), (2, .int (nI v))]) hx hb d_M_load_121 hl (by decide) rfl (fun ls hl => ?_)
        refine lv_iload_n hx hb d_M_load_123 rfl (lv_at hl 5 rfl) ?_
        refine lv_iload hx hb d_M_load_124 (lv_at hl 0 rfl) ?_
        refine lv_isub hx hb d_M_load_126 ?_
        exact us_iret hQ (by decide) (by decide) hx hb hr hlk hK hS (D1, D2, D3, Q1, Q2, Q3, Q4, cv, ov, S2, vp_updL (vp_updL (vp_updL (vp_updL (vp_updL (vp_updL (vp_updL (vp_updL LA 0 (S2 0)) 1 (S2 1)) 2 (S2 2)) 3 (S2 3)) 4 (S2 4)) 5 (S2 5)) 6 (S2 6)) 7 (S2 7), (nI v) - (0 : Int32)) rfl (⟨by obtain ⟨s0, s1, s2, s3, s4, s5, s6, s7⟩ := w41; refine ⟨?_, ?_, ?_, ?_, ?_, ?_, ?_, ?_⟩ <;> simp [vp_updL, s0, s1, s2, s3, s4, s5, s6, s7], by first | rw [us_mf_a c92 c97] | rw [us_mf_b (Or.inl c92) c106 c112] | rw [us_mf_b (Or.inr c97) c106 c112] | rw [us_mf_c (Or.inl c92) (Or.inl c106)] | rw [us_mf_c (Or.inl c92) (Or.inr c112)] | rw [us_mf_c (Or.inr c97) (Or.inl c106)] | rw [us_mf_c (Or.inr c97) (Or.inr c112)]⟩) hP hD d_M_load_127
      · refine lv_iload hx hb d_M_load_109 (lv_at hl 0 rfl) ?_
        refine lv_iload_n hx hb d_M_load_111 rfl (lv_at hl 4 rfl) ?_
        refine lv_icmp_gt (tgt := 120) hx hb d_M_load_112 (by decide) (fun c112 => ?_) (fun c112 => ?_)
        · refine lv_iconst (v := (0 : Int32)) hx hb d_M_load_120 (by decide) ?_
          refine lv_istore (lv' := [(5, .int (0 : Int32)), (4, .int (SN (2 * j + 1))), (3, .int (SN (2 * j))), (0, .ref mm), (1, .int (nI j)), (2, .int (nI v))]) hx hb d_M_load_121 hl (by decide) rfl (fun ls hl => ?_)
          refine lv_iload_n hx hb d_M_load_123 rfl (lv_at hl 5 rfl) ?_
          refine lv_iload hx hb d_M_load_124 (lv_at hl 0 rfl) ?_
          refine lv_isub hx hb d_M_load_126 ?_
          exact us_iret hQ (by decide) (by decide) hx hb hr hlk hK hS (D1, D2, D3, Q1, Q2, Q3, Q4, cv, ov, S2, vp_updL (vp_updL (vp_updL (vp_updL (vp_updL (vp_updL (vp_updL (vp_updL LA 0 (S2 0)) 1 (S2 1)) 2 (S2 2)) 3 (S2 3)) 4 (S2 4)) 5 (S2 5)) 6 (S2 6)) 7 (S2 7), (nI v) - (0 : Int32)) rfl (⟨by obtain ⟨s0, s1, s2, s3, s4, s5, s6, s7⟩ := w41; refine ⟨?_, ?_, ?_, ?_, ?_, ?_, ?_, ?_⟩ <;> simp [vp_updL, s0, s1, s2, s3, s4, s5, s6, s7], by first | rw [us_mf_a c92 c97] | rw [us_mf_b (Or.inl c92) c106 c112] | rw [us_mf_b (Or.inr c97) c106 c112] | rw [us_mf_c (Or.inl c92) (Or.inl c106)] | rw [us_mf_c (Or.inl c92) (Or.inr c112)] | rw [us_mf_c (Or.inr c97) (Or.inl c106)] | rw [us_mf_c (Or.inr c97) (Or.inr c112)]⟩) hP hD d_M_load_127
        · refine lv_iload hx hb d_M_load_115 (lv_at hl 0 rfl) ?_
          refine lv_goto (tgt := 121) hx hb d_M_load_117 (by decide) ?_
          refine lv_istore (lv' := [(5, .int (SN (2 * j + 1))), (4, .int (SN (2 * j + 1))), (3, .int (SN (2 * j))), (0, .ref mm), (1, .int (nI j)), (2, .int (nI v))]) hx hb d_M_load_121 hl (by decide) rfl (fun ls hl => ?_)
          refine lv_iload_n hx hb d_M_load_123 rfl (lv_at hl 5 rfl) ?_
          refine lv_iload hx hb d_M_load_124 (lv_at hl 0 rfl) ?_
          refine lv_isub hx hb d_M_load_126 ?_
          exact us_iret hQ (by decide) (by decide) hx hb hr hlk hK hS (D1, D2, D3, Q1, Q2, Q3, Q4, cv, ov, S2, vp_updL (vp_updL (vp_updL (vp_updL (vp_updL (vp_updL (vp_updL (vp_updL LA 0 (S2 0)) 1 (S2 1)) 2 (S2 2)) 3 (S2 3)) 4 (S2 4)) 5 (S2 5)) 6 (S2 6)) 7 (S2 7), (nI v) - (SN (2 * j + 1))) rfl (⟨by obtain ⟨s0, s1, s2, s3, s4, s5, s6, s7⟩ := w41; refine ⟨?_, ?_, ?_, ?_, ?_, ?_, ?_, ?_⟩ <;> simp [vp_updL, s0, s1, s2, s3, s4, s5, s6, s7], by first | rw [us_mf_a c92 c97] | rw [us_mf_b (Or.inl c92) c106 c112] | rw [us_mf_b (Or.inr c97) c106 c112] | rw [us_mf_c (Or.inl c92) (Or.inl c106)] | rw [us_mf_c (Or.inl c92) (Or.inr c112)] | rw [us_mf_c (Or.inr c97) (Or.inl c106)] | rw [us_mf_c (Or.inr c97) (Or.inr c112)]⟩) hP hD d_M_load_127
    · refine lv_iload_n hx hb d_M_load_100 rfl (lv_at hl 1 rfl) ?_
      refine lv_goto (tgt := 121) hx hb d_M_load_101 (by decide) ?_
      refine lv_istore (lv' := [(5, .int (SN (2 * j))), (4, .int (SN (2 * j + 1))), (3, .int (SN (2 * j))), (0, .ref mm), (1, .int (nI j)), (2, .int (nI v))]) hx hb d_M_load_121 hl (by decide) rfl (fun ls hl => ?_)
      refine lv_iload_n hx hb d_M_load_123 rfl (lv_at hl 5 rfl) ?_
      refine lv_iload hx hb d_M_load_124 (lv_at hl 0 rfl) ?_
      refine lv_isub hx hb d_M_load_126 ?_
      exact us_iret hQ (by decide) (by decide) hx hb hr hlk hK hS (D1, D2, D3, Q1, Q2, Q3, Q4, cv, ov, S2, vp_updL (vp_updL (vp_updL (vp_updL (vp_updL (vp_updL (vp_updL (vp_updL LA 0 (S2 0)) 1 (S2 1)) 2 (S2 2)) 3 (S2 3)) 4 (S2 4)) 5 (S2 5)) 6 (S2 6)) 7 (S2 7), (nI v) - (SN (2 * j))) rfl (⟨by obtain ⟨s0, s1, s2, s3, s4, s5, s6, s7⟩ := w41; refine ⟨?_, ?_, ?_, ?_, ?_, ?_, ?_, ?_⟩ <;> simp [vp_updL, s0, s1, s2, s3, s4, s5, s6, s7], by first | rw [us_mf_a c92 c97] | rw [us_mf_b (Or.inl c92) c106 c112] | rw [us_mf_b (Or.inr c97) c106 c112] | rw [us_mf_c (Or.inl c92) (Or.inl c106)] | rw [us_mf_c (Or.inl c92) (Or.inr c112)] | rw [us_mf_c (Or.inr c97) (Or.inl c106)] | rw [us_mf_c (Or.inr c97) (Or.inr c112)]⟩) hP hD d_M_load_127
