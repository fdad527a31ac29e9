set_option maxHeartbeats 4000000 in
set_option maxRecDepth 100000 in
theorem m_version (zl : Launch) (dC : Nat → ClassId) (dI : Nat → Nat → Nat) (cI cL cS cR : ClassId) (mm : Nat) (p1 : Nat) (p2 : Nat) (p3 : Nat) (p4 : Nat) (p5 : Nat) (p6 : Nat) (p7 : Nat) (p8 : Nat) (p9 : Nat) (p10 : Nat) (p11 : Nat) (p12 : Nat) (p13 : Nat) (p14 : Nat) (p15 : Nat) (p16 : Nat) (p17 : Nat) (p18 : Nat) (p19 : Nat) (p20 : Nat) (p21 : Nat) (p22 : Nat) (mp : Int32) (co : Int32) (cm : Int32) (ope : Int32) (n : Nat) (un : Nat) (he : Nat) (MS : Nat → Int32) (MT : Nat → Int32) (MF : Nat → Int32) (MU : Nat → Int32) (MV : Nat → Int32) (es : List us_Ev) (st : Nat → Nat) (j : Nat) (hL : us_ml MS MT MF MU MV n es st) (hj : j < 8) : us_Met (S := Unit) zl y_M_version w_M_version ({ frames := 1, cells := 0, slots := 0, locals := 23 }) (dC, dI) vwCl (us_ty cI cL cS cR) [.ref mm, .int (nI j)] [(mm, .inr (8, [.int mp, .int co, .int (nI n), .ref p1, .ref p2, .ref p3, .ref p4, .ref p5, .int (nI un), .ref p6, .ref p7, .ref p8, .int cm, .ref p9, .ref p10, .ref p11, .int ope, .ref p12, .ref p13, .ref p14, .ref p15, .ref p16, .ref p17, .ref p18, .ref p19, .ref p20, .ref p21, .int (nI he), .ref p22])), (p1, .inl (cI, 64, .inl MS)), (p2, .inl (cI, 68, .inl MT)), (p3, .inl (cI, 68, .inl MF)), (p4, .inl (cI, 68, .inl MU)), (p5, .inl (cI, 68, .inl MV))] (fun u => some (.int (nI (us_num st j n)))) (fun u => True) (fun u => [(mm, .inr (8, [.int mp, .int (0 : Int32), .int (nI n), .ref p1, .ref p2, .ref p3, .ref p4, .ref p5, .int (nI un), .ref p6, .ref p7, .ref p8, .int cm, .ref p9, .ref p10, .ref p11, .int ope, .ref p12, .ref p13, .ref p14, .ref p15, .ref p16, .ref p17, .ref p18, .ref p19, .ref p20, .ref p21, .int (nI he), .ref p22])), (p1, .inl (cI, 64, .inl MS)), (p2, .inl (cI, 68, .inl MT)), (p3, .inl (cI, 68, .inl MF)), (p4, .inl (cI, 68, .inl MU)), (p5, .inl (cI, 68, .inl MV))]) := by
  refine us_ofW (cc := b_M_version) (maxL := 2) (ret := (some .int)) (by decide) (Nat.le_of_ble_eq_true rfl) ?_
  intro zp ze zs zm args below meth zc zA ls zQ hQ hx hb hr hml hts hown hlk hin hl hK hP hD hS hA
  have hown : zs.vm.findClass "UpcastStreamsModel" = some zm.cls := hown
  have hl : lv_has ls 2 [(0, .ref mm), (1, .int (nI j))] := hl
  obtain ⟨H, hH⟩ : ∃ H, H = zs.heap := ⟨_, rfl⟩
  rw [← hH] at hP ⊢
  have hS : va_S zA zs.heap H [] := hH ▸ hS
  generalize ([] : List Loc) = locs at hS ⊢
  refine lv_aload_n hx hb d_M_version_0 rfl (lv_at hl 0 rfl) ?_
  refine lv_iconst (v := (0 : Int32)) hx hb d_M_version_1 (by decide) ?_
  refine va_put (D := (dC, dI)) (ci := 8) (v := .int (0 : Int32)) (ty := .int) (C := "UpcastStreamsModel") (T := F_M) (N := 29) hx hb hts in_M t_M t_M_ok n_M hown hK hP hD hS 0 rfl rfl 1 (by decide) (hts _ uw_3_132) (fun _ h9 => h9) rfl (by decide +kernel) rfl rfl (Nat.le_of_ble_eq_true rfl) d_M_version_2 (fun H locs hP hD hS => ?_)
  have hP : va_P (dC, dI) vwCl [(mm, .inr (8, [.int mp, .int (0 : Int32), .int (nI n), .ref p1, .ref p2, .ref p3, .ref p4, .ref p5, .int (nI un), .ref p6, .ref p7, .ref p8, .int cm, .ref p9, .ref p10, .ref p11, .int ope, .ref p12, .ref p13, .ref p14, .ref p15, .ref p16, .ref p17, .ref p18, .ref p19, .ref p20, .ref p21, .int (nI he), .ref p22])), (p1, .inl (cI, 64, .inl MS)), (p2, .inl (cI, 68, .inl MT)), (p3, .inl (cI, 68, .inl MF)), (p4, .inl (cI, 68, .inl MU)), (p5, .inl (cI, 68, .inl MV))] H := hP
  have hD : va_D zA [(mm, .inr (8, [.int mp, .int (0 : Int32), .int (nI n), .ref p1, .ref p2, .ref p3, .ref p4, .ref p5, .int (nI un), .ref p6, .ref p7, .ref p8, .int cm, .ref p9, .ref p10, .ref p11, .int ope, .ref p12, .ref p13, .ref p14, .ref p15, .ref p16, .ref p17, .ref p18, .ref p19, .ref p20, .ref p21, .int (nI he), .ref p22])), (p1, .inl (cI, 64, .inl MS)), (p2, .inl (cI, 68, .inl MT)), (p3, .inl (cI, 68, .inl MF)), (p4, .inl (cI, 68, .inl MU)), (p5, .inl (cI, 68, .inl MV))] := hD
  refine lv_iload_n hx hb d_M_version_5 rfl (lv_at hl 1 rfl) ?_
  refine us_callRS (As := [.int (nI j)]) (rest := []) ⟨hx, hb, hml, hown, hts⟩ (m_isStream zl dC dI cI cL cS cR (nI j) ) ⟨callB_of 1 hts (us_gC k_M_isStream) rfl rfl rfl (hts _ uw_1_10) (hts _ uw_3_239) h_M_isStream.2 ⟨by decide, by decide⟩, (hts _ uw_4_0)⟩ hK hP hS hA [] rfl rfl hl.1 rfl (Nat.le_of_ble_eq_true rfl) d_M_version_6 ⟨by decide, by decide⟩ (fun u H locs w6 hP hS => ?_)
  obtain ⟨r6, rfl⟩ : ∃ z, z = u := ⟨_, rfl⟩
  try dsimp only at w6
  refine W.eq (g2 := F0 zm 9 ls [.int r6]) rfl ?_
  refine lv_if_eq (tgt := 20) hx hb d_M_version_9 (by decide) (fun h => absurd ⟨nI_pos' (by omega), nI_lt (b := 8) hj (by omega)⟩ (us_d0 w6 h)) (fun c1 => ?_)
  refine lv_aload_n hx hb d_M_version_12 rfl (lv_at hl 0 rfl) ?_
  refine lv_iload_n hx hb d_M_version_13 rfl (lv_at hl 1 rfl) ?_
  refine us_cV (q0 := 0) (As := [.int (nI j)]) (rest := []) (N2 := 6) (fun u => [(mm, .inr (8, [.int mp, .int (0 : Int32), .int (nI n), .ref p1, .ref p2, .ref p3, .ref p4, .ref p5, .int (nI un), .ref p6, .ref p7, .ref p8, .int cm, .ref p9, .ref p10, .ref p11, .int ope, .ref p12, .ref p13, .ref p14, .ref p15, .ref p16, .ref p17, .ref p18, .ref p19, .ref p20, .ref p21, .int (nI he), .ref p22])), (p1, .inl (cI, 64, .inl MS)), (p2, .inl (cI, 68, .inl MT)), (p3, .inl (cI, 68, .inl MF)), (p4, .inl (cI, 68, .inl MU)), (p5, .inl (cI, 68, .inl MV))]) ⟨hx, hb, hml, hown, hts⟩ (m_versionOf zl dC dI cI cL cS cR mm p1 p2 p3 p4 p5 p6 p7 p8 p9 p10 p11 p12 p13 p14 p15 p16 p17 p18 p19 p20 p21 p22 mp (0 : Int32) cm ope n un he MS st (nI j) hL.2.2.2.1 hL.2.2.1) (cwV 1 hts (us_gV uw_4_2 uw_4_4 uw_p_12 uw_1_10 k_M_versionOf) rfl rfl rfl h_M_versionOf ⟨by decide, by decide⟩) hK hP hD hS hA [0, 1] [0, 1] [2, 3, 4, 5] rfl (by decide) (fun _ => rfl) [(p2, .inl (cI, 68, .inl MT)), (p3, .inl (cI, 68, .inl MF)), (p4, .inl (cI, 68, .inl MU)), (p5, .inl (cI, 68, .inl MV))] (fun _ => rfl) rfl (fun _ => rfl) (by decide) (by decide) rfl rfl rfl hl.1 rfl (Nat.le_of_ble_eq_true rfl) d_M_version_14 ⟨by decide, by decide⟩ (fun u H locs w14 hP hD hS => ?_)
  obtain ⟨rv, rfl⟩ : ∃ z, z = u := ⟨_, rfl⟩
  have hP : va_P (dC, dI) vwCl [(mm, .inr (8, [.int mp, .int (0 : Int32), .int (nI n), .ref p1, .ref p2, .ref p3, .ref p4, .ref p5, .int (nI un), .ref p6, .ref p7, .ref p8, .int cm, .ref p9, .ref p10, .ref p11, .int ope, .ref p12, .ref p13, .ref p14, .ref p15, .ref p16, .ref p17, .ref p18, .ref p19, .ref p20, .ref p21, .int (nI he), .ref p22])), (p1, .inl (cI, 64, .inl MS)), (p2, .inl (cI, 68, .inl MT)), (p3, .inl (cI, 68, .inl MF)), (p4, .inl (cI, 68, .inl MU)), (p5, .inl (cI, 68, .inl MV))] H := hP
  have hD : va_D zA [(mm, .inr (8, [.int mp, .int (0 : Int32), .int (nI n), .ref p1, .ref p2, .ref p3, .ref p4, .ref p5, .int (nI un), .ref p6, .ref p7, .ref p8, .int cm, .ref p9, .ref p10, .ref p11, .int ope, .ref p12, .ref p13, .ref p14, .ref p15, .ref p16, .ref p17, .ref p18, .ref p19, .ref p20, .ref p21, .int (nI he), .ref p22])), (p1, .inl (cI, 64, .inl MS)), (p2, .inl (cI, 68, .inl MT)), (p3, .inl (cI, 68, .inl MF)), (p4, .inl (cI, 68, .inl MU)), (p5, .inl (cI, 68, .inl MV))] := hD
  try dsimp only at w14
  refine W.eq (g2 := F0 zm 17 ls [.int (nI rv)]) rfl ?_
  refine us_top (show (nI rv) = (nI (us_num st j n)) from by rw [w14.2 j hj rfl]) ?_
  refine lv_goto (tgt := 21) hx hb d_M_version_17 (by decide) ?_
  exact us_iret hQ (by decide) (by decide) hx hb hr hlk hK hS () rfl (by simp) hP hD d_M_version_21

set_option maxHeartbeats 4000000 in
set_option maxRecDepth 100000 in
theorem m_version_no (zl : Launch) (dC : Nat → ClassId) (dI : Nat → Nat → Nat) (cI cL cS cR : ClassId) (mm : Nat) (p1 : Nat) (p2 : Nat) (p3 : Nat) (p4 : Nat) (p5 : Nat) (p6 : Nat) (p7 : Nat) (p8 : Nat) (p9 : Nat) (p10 : Nat) (p11 : Nat) (p12 : Nat) (p13 : Nat) (p14 : Nat) (p15 : Nat) (p16 : Nat) (p17 : Nat) (p18 : Nat) (p19 : Nat) (p20 : Nat) (p21 : Nat) (p22 : Nat) (mp : Int32) (co : Int32) (cm : Int32) (ope : Int32) (n : Nat) (un : Nat) (he : Nat) (y : Int32) (hy : ¬ (0 ≤ y ∧ y < 8)) : us_Met (S := Unit) zl y_M_version w_M_version ({ frames := 1, cells := 0, slots := 0, locals := 20 }) (dC, dI) vwCl (us_ty cI cL cS cR) [.ref mm, .int y] [(mm, .inr (8, [.int mp, .int co, .int (nI n), .ref p1, .ref p2, .ref p3, .ref p4, .ref p5, .int (nI un), .ref p6, .ref p7, .ref p8, .int cm, .ref p9, .ref p10, .ref p11, .int ope, .ref p12, .ref p13, .ref p14, .ref p15, .ref p16, .ref p17, .ref p18, .ref p19, .ref p20, .ref p21, .int (nI he), .ref p22]))] (fun u => some (.int (-1 : Int32))) (fun u => True) (fun u => [(mm, .inr (8, [.int mp, .int (0 : Int32), .int (nI n), .ref p1, .ref p2, .ref p3, .ref p4, .ref p5, .int (nI un), .ref p6, .ref p7, .ref p8, .int cm, .ref p9, .ref p10, .ref p11, .int ope, .ref p12, .ref p13, .ref p14, .ref p15, .ref p16, .ref p17, .ref p18, .ref p19, .ref p20, .ref p21, .int (nI he), .ref p22]))]) := by
  refine us_ofW (cc := b_M_version) (maxL := 2) (ret := (some .int)) (by decide) (Nat.le_of_ble_eq_true rfl) ?_
  intro zp ze zs zm args below meth zc zA ls zQ hQ hx hb hr hml hts hown hlk hin hl hK hP hD hS hA
  have hown : zs.vm.findClass "UpcastStreamsModel" = some zm.cls := hown
  have hl : lv_has ls 2 [(0, .ref mm), (1, .int y)] := hl
  obtain ⟨H, hH⟩ : ∃ H, H = zs.heap := ⟨_, rfl⟩
  rw [← hH] at hP ⊢
  have hS : va_S zA zs.heap H [] := hH ▸ hS
  generalize ([] : List Loc) = locs at hS ⊢
  refine lv_aload_n hx hb d_M_version_0 rfl (lv_at hl 0 rfl) ?_
  refine lv_iconst (v := (0 : Int32)) hx hb d_M_version_1 (by decide) ?_
  refine va_put (D := (dC, dI)) (ci := 8) (v := .int (0 : Int32)) (ty := .int) (C := "UpcastStreamsModel") (T := F_M) (N := 29) hx hb hts in_M t_M t_M_ok n_M hown hK hP hD hS 0 rfl rfl 1 (by decide) (hts _ uw_3_132) (fun _ h9 => h9) rfl (by decide +kernel) rfl rfl (Nat.le_of_ble_eq_true rfl) d_M_version_2 (fun H locs hP hD hS => ?_)
  have hP : va_P (dC, dI) vwCl [(mm, .inr (8, [.int mp, .int (0 : Int32), .int (nI n), .ref p1, .ref p2, .ref p3, .ref p4, .ref p5, .int (nI un), .ref p6, .ref p7, .ref p8, .int cm, .ref p9, .ref p10, .ref p11, .int ope, .ref p12, .ref p13, .ref p14, .ref p15, .ref p16, .ref p17, .ref p18, .ref p19, .ref p20, .ref p21, .int (nI he), .ref p22]))] H := hP
  have hD : va_D zA [(mm, .inr (8, [.int mp, .int (0 : Int32), .int (nI n), .ref p1, .ref p2, .ref p3, .ref p4, .ref p5, .int (nI un), .ref p6, .ref p7, .ref p8, .int cm, .ref p9, .ref p10, .ref p11, .int ope, .ref p12, .ref p13, .ref p14, .ref p15, .ref p16, .ref p17, .ref p18, .ref p19, .ref p20, .ref p21, .int (nI he), .ref p22]))] := hD
  refine lv_iload_n hx hb d_M_version_5 rfl (lv_at hl 1 rfl) ?_
  refine us_callRS (As := [.int y]) (rest := []) ⟨hx, hb, hml, hown, hts⟩ (m_isStream zl dC dI cI cL cS cR y ) ⟨callB_of 1 hts (us_gC k_M_isStream) rfl rfl rfl (hts _ uw_1_10) (hts _ uw_3_239) h_M_isStream.2 ⟨by decide, by decide⟩, (hts _ uw_4_0)⟩ hK hP hS hA [] rfl rfl hl.1 rfl (Nat.le_of_ble_eq_true rfl) d_M_version_6 ⟨by decide, by decide⟩ (fun u H locs w6 hP hS => ?_)
  obtain ⟨r6, rfl⟩ : ∃ z, z = u := ⟨_, rfl⟩
  try dsimp only at w6
  refine W.eq (g2 := F0 zm 9 ls [.int r6]) rfl ?_
  refine lv_if_eq (tgt := 20) hx hb d_M_version_9 (by decide) (fun c1 => ?_) (fun h => absurd (us_d1 w6 h) hy)
  refine lv_iconst (v := (-1 : Int32)) hx hb d_M_version_20 (by decide) ?_
  exact us_iret hQ (by decide) (by decide) hx hb hr hlk hK hS () rfl (by simp) hP hD d_M_version_21

set_option maxHeartbeats 4000000 in
set_option maxRecDepth 100000 in
theorem m_stored (zl : Launch) (dC : Nat → ClassId) (dI : Nat → Nat → Nat) (cI cL cS cR : ClassId) (mm : Nat) (p1 : Nat) (p2 : Nat) (p3 : Nat) (p4 : Nat) (p5 : Nat) (p6 : Nat) (p7 : Nat) (p8 : Nat) (p9 : Nat) (p10 : Nat) (p11 : Nat) (p12 : Nat) (p13 : Nat) (p14 : Nat) (p15 : Nat) (p16 : Nat) (p17 : Nat) (p18 : Nat) (p19 : Nat) (p20 : Nat) (p21 : Nat) (p22 : Nat) (mp : Int32) (co : Int32) (cm : Int32) (ope : Int32) (n : Nat) (un : Nat) (he : Nat) (MS : Nat → Int32) (MT : Nat → Int32) (MF : Nat → Int32) (MU : Nat → Int32) (MV : Nat → Int32) (es : List us_Ev) (st : Nat → Nat) (i : Nat) (q : Nat) (hL : us_ml MS MT MF MU MV n es st) (hi : i < n) (hq : q < 6) : us_Met (S := Int32) zl y_M_stored w_M_stored ({ frames := 1, cells := 0, slots := 0, locals := 23 }) (dC, dI) vwCl (us_ty cI cL cS cR) [.ref mm, .int (nI i), .int (nI q)] [(mm, .inr (8, [.int mp, .int co, .int (nI n), .ref p1, .ref p2, .ref p3, .ref p4, .ref p5, .int (nI un), .ref p6, .ref p7, .ref p8, .int cm, .ref p9, .ref p10, .ref p11, .int ope, .ref p12, .ref p13, .ref p14, .ref p15, .ref p16, .ref p17, .ref p18, .ref p19, .ref p20, .ref p21, .int (nI he), .ref p22])), (p1, .inl (cI, 64, .inl MS)), (p2, .inl (cI, 68, .inl MT)), (p3, .inl (cI, 68, .inl MF)), (p4, .inl (cI, 68, .inl MU)), (p5, .inl (cI, 68, .inl MV))] (fun u => some (.int u)) (fun u => u = us_p6 q (MS i) (nI (us_num st (st i) i)) (MT i) (MF i) (MU i) (MV i)) (fun u => [(mm, .inr (8, [.int mp, .int (0 : Int32), .int (nI n), .ref p1, .ref p2, .ref p3, .ref p4, .ref p5, .int (nI un), .ref p6, .ref p7, .ref p8, .int cm, .ref p9, .ref p10, .ref p11, .int ope, .ref p12, .ref p13, .ref p14, .ref p15, .ref p16, .ref p17, .ref p18, .ref p19, .ref p20, .ref p21, .int (nI he), .ref p22])), (p1, .inl (cI, 64, .inl MS)), (p2, .inl (cI, 68, .inl MT)), (p3, .inl (cI, 68, .inl MF)), (p4, .inl (cI, 68, .inl MU)), (p5, .inl (cI, 68, .inl MV))]) := by
  refine us_ofW (cc := b_M_stored) (maxL := 3) (ret := (some .int)) (by decide) (Nat.le_of_ble_eq_true rfl) ?_
  intro zp ze zs zm args below meth zc zA ls zQ hQ hx hb hr hml hts hown hlk hin hl hK hP hD hS hA
  have hown : zs.vm.findClass "UpcastStreamsModel" = some zm.cls := hown
  have hl : lv_has ls 3 [(0, .ref mm), (1, .int (nI i)), (2, .int (nI q))] := hl
  obtain ⟨H, hH⟩ : ∃ H, H = zs.heap := ⟨_, rfl⟩
  rw [← hH] at hP ⊢
  have hS : va_S zA zs.heap H [] := hH ▸ hS
  generalize ([] : List Loc) = locs at hS ⊢
  have hn64 := hL.2.2.1
  rcases (show q = 0 ∨ q = 1 ∨ q = 2 ∨ q = 3 ∨ q = 4 ∨ q = 5 by omega) with rfl | rfl | rfl | rfl | rfl | rfl
  · refine lv_aload_n hx hb d_M_stored_0 rfl (lv_at hl 0 rfl) ?_
    refine lv_iload_n hx hb d_M_stored_1 rfl (lv_at hl 1 rfl) ?_
    refine lv_if_lt (tgt := 22) hx hb d_M_stored_2 (by decide) (fun h => absurd h (nI_pos (by omega))) (fun c1 => ?_)
    refine lv_iload_n hx hb d_M_stored_5 rfl (lv_at hl 1 rfl) ?_
    refine lv_aload_n hx hb d_M_stored_6 rfl (lv_at hl 0 rfl) ?_
    refine va_get (D := (dC, dI)) (ci := 8) (v := .int (nI n)) (C := "UpcastStreamsModel") (T := F_M) (N := 29) hx hb hts in_M hown hK hP 0 rfl rfl 2 (by decide) (hts _ uw_3_133) (fun _ h9 => h9) rfl d_M_stored_7 ?_
    refine lv_icmp_ge (tgt := 22) hx hb d_M_stored_10 (by decide) (fun h => absurd h (nI_ge hi (by omega))) (fun c2 => ?_)
    refine lv_iload_n hx hb d_M_stored_13 rfl (lv_at hl 2 rfl) ?_
    refine lv_if_lt (tgt := 22) hx hb d_M_stored_14 (by decide) (fun h => absurd h (by decide)) (fun c3 => ?_)
    refine lv_iload_n hx hb d_M_stored_17 rfl (lv_at hl 2 rfl) ?_
    refine lv_iconst (v := (5 : Int32)) hx hb d_M_stored_18 (by decide) ?_
    refine lv_icmp_le (tgt := 26) hx hb d_M_stored_19 (by decide) (fun c4 => ?_) (fun h => absurd h (by decide))
    refine lv_iconst (v := (0 : Int32)) hx hb d_M_stored_26 (by decide) ?_
    refine va_put (D := (dC, dI)) (ci := 8) (v := .int (0 : Int32)) (ty := .int) (C := "UpcastStreamsModel") (T := F_M) (N := 29) hx hb hts in_M t_M t_M_ok n_M hown hK hP hD hS 0 rfl rfl 1 (by decide) (hts _ uw_3_132) (fun _ h9 => h9) rfl (by decide +kernel) rfl rfl (Nat.le_of_ble_eq_true rfl) d_M_stored_27 (fun H locs hP hD hS => ?_)
    have hP : va_P (dC, dI) vwCl [(mm, .inr (8, [.int mp, .int (0 : Int32), .int (nI n), .ref p1, .ref p2, .ref p3, .ref p4, .ref p5, .int (nI un), .ref p6, .ref p7, .ref p8, .int cm, .ref p9, .ref p10, .ref p11, .int ope, .ref p12, .ref p13, .ref p14, .ref p15, .ref p16, .ref p17, .ref p18, .ref p19, .ref p20, .ref p21, .int (nI he), .ref p22])), (p1, .inl (cI, 64, .inl MS)), (p2, .inl (cI, 68, .inl MT)), (p3, .inl (cI, 68, .inl MF)), (p4, .inl (cI, 68, .inl MU)), (p5, .inl (cI, 68, .inl MV))] H := hP
    have hD : va_D zA [(mm, .inr (8, [.int mp, .int (0 : Int32), .int (nI n), .ref p1, .ref p2, .ref p3, .ref p4, .ref p5, .int (nI un), .ref p6, .ref p7, .ref p8, .int cm, .ref p9, .ref p10, .ref p11, .int ope, .ref p12, .ref p13, .ref p14, .ref p15, .ref p16, .ref p17, .ref p18, .ref p19, .ref p20, .ref p21, .int (nI he), .ref p22])), (p1, .inl (cI, 64, .inl MS)), (p2, .inl (cI, 68, .inl MT)), (p3, .inl (cI, 68, .inl MF)), (p4, .inl (cI, 68, .inl MU)), (p5, .inl (cI, 68, .inl MV))] := hD
    refine lv_aload_n hx hb d_M_stored_30 rfl (lv_at hl 0 rfl) ?_
    refine va_get (D := (dC, dI)) (ci := 8) (v := .int (0 : Int32)) (C := "UpcastStreamsModel") (T := F_M) (N := 29) hx hb hts in_M hown hK hP 0 rfl rfl 1 (by decide) (hts _ uw_3_132) (fun _ h9 => h9) rfl d_M_stored_31 ?_
    refine lv_if_le (tgt := 39) hx hb d_M_stored_34 (by decide) (fun c5 => ?_) (fun h => absurd h (by decide))
    refine lv_iload_n hx hb d_M_stored_39 rfl (lv_at hl 2 rfl) ?_
    refine lv_if_ne (tgt := 52) hx hb d_M_stored_40 (by decide) (fun h => absurd h (by decide)) (fun c6 => ?_)
    refine lv_aload_n hx hb d_M_stored_43 rfl (lv_at hl 0 rfl) ?_
    refine va_get (D := (dC, dI)) (ci := 8) (v := .ref p1) (C := "UpcastStreamsModel") (T := F_M) (N := 29) hx hb hts in_M hown hK hP 0 rfl rfl 3 (by decide) (hts _ uw_3_134) (fun _ h9 => h9) rfl d_M_stored_44 ?_
    refine lv_iload_n hx hb d_M_stored_47 rfl (lv_at hl 1 rfl) ?_
    refine us_iald (j := i) hx hb hK hP 1 0 rfl rfl (vp_in_nI (by omega) (by omega)) (nI_clamp (by omega)) d_M_stored_48 ?_
    refine lv_goto (tgt := 113) hx hb d_M_stored_49 (by decide) ?_
    exact us_iret hQ (by decide) (by decide) hx hb hr hlk hK hS (MS i) rfl (rfl) hP hD d_M_stored_113
  · refine lv_aload_n hx hb d_M_stored_0 rfl (lv_at hl 0 rfl) ?_
    refine lv_iload_n hx hb d_M_stored_1 rfl (lv_at hl 1 rfl) ?_
    refine lv_if_lt (tgt := 22) hx hb d_M_stored_2 (by decide) (fun h => absurd h (nI_pos (by omega))) (fun c7 => ?_)
    refine lv_iload_n hx hb d_M_stored_5 rfl (lv_at hl 1 rfl) ?_
    refine lv_aload_n hx hb d_M_stored_6 rfl (lv_at hl 0 rfl) ?_
    refine va_get (D := (dC, dI)) (ci := 8) (v := .int (nI n)) (C := "UpcastStreamsModel") (T := F_M) (N := 29) hx hb hts in_M hown hK hP 0 rfl rfl 2 (by decide) (hts _ uw_3_133) (fun _ h9 => h9) rfl d_M_stored_7 ?_
    refine lv_icmp_ge (tgt := 22) hx hb d_M_stored_10 (by decide) (fun h => absurd h (nI_ge hi (by omega))) (fun c8 => ?_)
    refine lv_iload_n hx hb d_M_stored_13 rfl (lv_at hl 2 rfl) ?_
    refine lv_if_lt (tgt := 22) hx hb d_M_stored_14 (by decide) (fun h => absurd h (by decide)) (fun c9 => ?_)
    refine lv_iload_n hx hb d_M_stored_17 rfl (lv_at hl 2 rfl) ?_
    refine lv_iconst (v := (5 : Int32)) hx hb d_M_stored_18 (by decide) ?_
    refine lv_icmp_le (tgt := 26) hx hb d_M_stored_19 (by decide) (fun c10 => ?_) (fun h => absurd h (by decide))
    refine lv_iconst (v := (0 : Int32)) hx hb d_M_stored_26 (by decide) ?_
    refine va_put (D := (dC, dI)) (ci := 8) (v := .int (0 : Int32)) (ty := .int) (C := "UpcastStreamsModel") (T := F_M) (N := 29) hx hb hts in_M t_M t_M_ok n_M hown hK hP hD hS 0 rfl rfl 1 (by decide) (hts _ uw_3_132) (fun _ h9 => h9) rfl (by decide +kernel) rfl rfl (Nat.le_of_ble_eq_true rfl) d_M_stored_27 (fun H locs hP hD hS => ?_)
    have hP : va_P (dC, dI) vwCl [(mm, .inr (8, [.int mp, .int (0 : Int32), .int (nI n), .ref p1, .ref p2, .ref p3, .ref p4, .ref p5, .int (nI un), .ref p6, .ref p7, .ref p8, .int cm, .ref p9, .ref p10, .ref p11, .int ope, .ref p12, .ref p13, .ref p14, .ref p15, .ref p16, .ref p17, .ref p18, .ref p19, .ref p20, .ref p21, .int (nI he), .ref p22])), (p1, .inl (cI, 64, .inl MS)), (p2, .inl (cI, 68, .inl MT)), (p3, .inl (cI, 68, .inl MF)), (p4, .inl (cI, 68, .inl MU)), (p5, .inl (cI, 68, .inl MV))] H := hP
    have hD : va_D zA [(mm, .inr (8, [.int mp, .int (0 : Int32), .int (nI n), .ref p1, .ref p2, .ref p3, .ref p4, .ref p5, .int (nI un), .ref p6, .ref p7, .ref p8, .int cm, .ref p9, .ref p10, .ref p11, .int ope, .ref p12, .ref p13, .ref p14, .ref p15, .ref p16, .ref p17, .ref p18, .ref p19, .ref p20, .ref p21, .int (nI he), .ref p22])), (p1, .inl (cI, 64, .inl MS)), (p2, .inl (cI, 68, .inl MT)), (p3, .inl (cI, 68, .inl MF)), (p4, .inl (cI, 68, .inl MU)), (p5, .inl (cI, 68, .inl MV))] := hD
    refine lv_aload_n hx hb d_M_stored_30 rfl (lv_at hl 0 rfl) ?_
    refine va_get (D := (dC, dI)) (ci := 8) (v := .int (0 : Int32)) (C := "UpcastStreamsModel") (T := F_M) (N := 29) hx hb hts in_M hown hK hP 0 rfl rfl 1 (by decide) (hts _ uw_3_132) (fun _ h9 => h9) rfl d_M_stored_31 ?_
    refine lv_if_le (tgt := 39) hx hb d_M_stored_34 (by decide) (fun c11 => ?_) (fun h => absurd h (by decide))
    refine lv_iload_n hx hb d_M_stored_39 rfl (lv_at hl 2 rfl) ?_
    refine lv_if_ne (tgt := 52) hx hb d_M_stored_40 (by decide) (fun c12 => ?_) (fun h => absurd h (by decide))
    refine lv_iload_n hx hb d_M_stored_52 rfl (lv_at hl 2 rfl) ?_
    refine lv_iconst (v := (1 : Int32)) hx hb d_M_stored_53 (by decide) ?_
    refine lv_icmp_ne (tgt := 65) hx hb d_M_stored_54 (by decide) (fun h => absurd h (by decide)) (fun c13 => ?_)
    refine lv_aload_n hx hb d_M_stored_57 rfl (lv_at hl 0 rfl) ?_
    refine lv_iload_n hx hb d_M_stored_58 rfl (lv_at hl 1 rfl) ?_
    refine us_cV (q0 := 0) (As := [.int (nI i)]) (rest := []) (N2 := 6) (fun u => [(mm, .inr (8, [.int mp, .int (0 : Int32), .int (nI n), .ref p1, .ref p2, .ref p3, .ref p4, .ref p5, .int (nI un), .ref p6, .ref p7, .ref p8, .int cm, .ref p9, .ref p10, .ref p11, .int ope, .ref p12, .ref p13, .ref p14, .ref p15, .ref p16, .ref p17, .ref p18, .ref p19, .ref p20, .ref p21, .int (nI he), .ref p22])), (p1, .inl (cI, 64, .inl MS)), (p2, .inl (cI, 68, .inl MT)), (p3, .inl (cI, 68, .inl MF)), (p4, .inl (cI, 68, .inl MU)), (p5, .inl (cI, 68, .inl MV))]) ⟨hx, hb, hml, hown, hts⟩ (m_numberOf zl dC dI cI cL cS cR mm p1 p2 p3 p4 p5 p6 p7 p8 p9 p10 p11 p12 p13 p14 p15 p16 p17 p18 p19 p20 p21 p22 mp (0 : Int32) cm ope n un he MS st i hL.2.2.2.1 hL.2.2.1 hi) (cwV 1 hts (us_gV uw_4_56 uw_4_58 uw_p_22 uw_1_10 k_M_numberOf) rfl rfl rfl h_M_numberOf ⟨by decide, by decide⟩) hK hP hD hS hA [0, 1] [0, 1] [2, 3, 4, 5] rfl (by decide) (fun _ => rfl) [(p2, .inl (cI, 68, .inl MT)), (p3, .inl (cI, 68, .inl MF)), (p4, .inl (cI, 68, .inl MU)), (p5, .inl (cI, 68, .inl MV))] (fun _ => rfl) rfl (fun _ => rfl) (by decide) (by decide) rfl rfl rfl hl.1 rfl (Nat.le_of_ble_eq_true rfl) d_M_stored_59 ⟨by decide, by decide⟩ (fun u H locs w59 hP hD hS => ?_)
    have hP : va_P (dC, dI) vwCl [(mm, .inr (8, [.int mp, .int (0 : Int32), .int (nI n), .ref p1, .ref p2, .ref p3, .ref p4, .ref p5, .int (nI un), .ref p6, .ref p7, .ref p8, .int cm, .ref p9, .ref p10, .ref p11, .int ope, .ref p12, .ref p13, .ref p14, .ref p15, .ref p16, .ref p17, .ref p18, .ref p19, .ref p20, .ref p21, .int (nI he), .ref p22])), (p1, .inl (cI, 64, .inl MS)), (p2, .inl (cI, 68, .inl MT)), (p3, .inl (cI, 68, .inl MF)), (p4, .inl (cI, 68, .inl MU)), (p5, .inl (cI, 68, .inl MV))] H := hP
    have hD : va_D zA [(mm, .inr (8, [.int mp, .int (0 : Int32), .int (nI n), .ref p1, .ref p2, .ref p3, .ref p4, .ref p5, .int (nI un), .ref p6, .ref p7, .ref p8, .int cm, .ref p9, .ref p10, .ref p11, .int ope, .ref p12, .ref p13, .ref p14, .ref p15, .ref p16, .ref p17, .ref p18, .ref p19, .ref p20, .ref p21, .int (nI he), .ref p22])), (p1, .inl (cI, 64, .inl MS)), (p2, .inl (cI, 68, .inl MT)), (p3, .inl (cI, 68, .inl MF)), (p4, .inl (cI, 68, .inl MU)), (p5, .inl (cI, 68, .inl MV))] := hD
    try dsimp only at w59
    refine W.eq (g2 := F0 zm 62 ls [.int (nI (us_num st (st i) i))]) rfl ?_
    refine lv_goto (tgt := 113) hx hb d_M_stored_62 (by decide) ?_
    exact us_iret hQ (by decide) (by decide) hx hb hr hlk hK hS (nI (us_num st (st i) i)) rfl (rfl) hP hD d_M_stored_113
  · refine lv_aload_n hx hb d_M_stored_0 rfl (lv_at hl 0 rfl) ?_
    refine lv_iload_n hx hb d_M_stored_1 rfl (lv_at hl 1 rfl) ?_
    refine lv_if_lt (tgt := 22) hx hb d_M_stored_2 (by decide) (fun h => absurd h (nI_pos (by omega))) (fun c14 => ?_)
    refine lv_iload_n hx hb d_M_stored_5 rfl (lv_at hl 1 rfl) ?_
    refine lv_aload_n hx hb d_M_stored_6 rfl (lv_at hl 0 rfl) ?_
    refine va_get (D := (dC, dI)) (ci := 8) (v := .int (nI n)) (C := "UpcastStreamsModel") (T := F_M) (N := 29) hx hb hts in_M hown hK hP 0 rfl rfl 2 (by decide) (hts _ uw_3_133) (fun _ h9 => h9) rfl d_M_stored_7 ?_
    refine lv_icmp_ge (tgt := 22) hx hb d_M_stored_10 (by decide) (fun h => absurd h (nI_ge hi (by omega))) (fun c15 => ?_)
    refine lv_iload_n hx hb d_M_stored_13 rfl (lv_at hl 2 rfl) ?_
    refine lv_if_lt (tgt := 22) hx hb d_M_stored_14 (by decide) (fun h => absurd h (by decide)) (fun c16 => ?_)
    refine lv_iload_n hx hb d_M_stored_17 rfl (lv_at hl 2 rfl) ?_
    refine lv_iconst (v := (5 : Int32)) hx hb d_M_stored_18 (by decide) ?_
    refine lv_icmp_le (tgt := 26) hx hb d_M_stored_19 (by decide) (fun c17 => ?_) (fun h => absurd h (by decide))
    refine lv_iconst (v := (0 : Int32)) hx hb d_M_stored_26 (by decide) ?_
    refine va_put (D := (dC, dI)) (ci := 8) (v := .int (0 : Int32)) (ty := .int) (C := "UpcastStreamsModel") (T := F_M) (N := 29) hx hb hts in_M t_M t_M_ok n_M hown hK hP hD hS 0 rfl rfl 1 (by decide) (hts _ uw_3_132) (fun _ h9 => h9) rfl (by decide +kernel) rfl rfl (Nat.le_of_ble_eq_true rfl) d_M_stored_27 (fun H locs hP hD hS => ?_)
    have hP : va_P (dC, dI) vwCl [(mm, .inr (8, [.int mp, .int (0 : Int32), .int (nI n), .ref p1, .ref p2, .ref p3, .ref p4, .ref p5, .int (nI un), .ref p6, .ref p7, .ref p8, .int cm, .ref p9, .ref p10, .ref p11, .int ope, .ref p12, .ref p13, .ref p14, .ref p15, .ref p16, .ref p17, .ref p18, .ref p19, .ref p20, .ref p21, .int (nI he), .ref p22])), (p1, .inl (cI, 64, .inl MS)), (p2, .inl (cI, 68, .inl MT)), (p3, .inl (cI, 68, .inl MF)), (p4, .inl (cI, 68, .inl MU)), (p5, .inl (cI, 68, .inl MV))] H := hP
    have hD : va_D zA [(mm, .inr (8, [.int mp, .int (0 : Int32), .int (nI n), .ref p1, .ref p2, .ref p3, .ref p4, .ref p5, .int (nI un), .ref p6, .ref p7, .ref p8, .int cm, .ref p9, .ref p10, .ref p11, .int ope, .ref p12, .ref p13, .ref p14, .ref p15, .ref p16, .ref p17, .ref p18, .ref p19, .ref p20, .ref p21, .int (nI he), .ref p22])), (p1, .inl (cI, 64, .inl MS)), (p2, .inl (cI, 68, .inl MT)), (p3, .inl (cI, 68, .inl MF)), (p4, .inl (cI, 68, .inl MU)), (p5, .inl (cI, 68, .inl MV))] := hD
    refine lv_aload_n hx hb d_M_stored_30 rfl (lv_at hl 0 rfl) ?_
    refine va_get (D := (dC, dI)) (ci := 8) (v := .int (0 : Int32)) (C := "UpcastStreamsModel") (T := F_M) (N := 29) hx hb hts in_M hown hK hP 0 rfl rfl 1 (by decide) (hts _ uw_3_132) (fun _ h9 => h9) rfl d_M_stored_31 ?_
    refine lv_if_le (tgt := 39) hx hb d_M_stored_34 (by decide) (fun c18 => ?_) (fun h => absurd h (by decide))
    refine lv_iload_n hx hb d_M_stored_39 rfl (lv_at hl 2 rfl) ?_
    refine lv_if_ne (tgt := 52) hx hb d_M_stored_40 (by decide) (fun c19 => ?_) (fun h => absurd h (by decide))
    refine lv_iload_n hx hb d_M_stored_52 rfl (lv_at hl 2 rfl) ?_
    refine lv_iconst (v := (1 : Int32)) hx hb d_M_stored_53 (by decide) ?_
    refine lv_icmp_ne (tgt := 65) hx hb d_M_stored_54 (by decide) (fun c20 => ?_) (fun h => absurd h (by decide))
    refine lv_iload_n hx hb d_M_stored_65 rfl (lv_at hl 2 rfl) ?_
    refine lv_iconst (v := (2 : Int32)) hx hb d_M_stored_66 (by decide) ?_
    refine lv_icmp_ne (tgt := 79) hx hb d_M_stored_67 (by decide) (fun h => absurd h (by decide)) (fun c21 => ?_)
    refine lv_aload_n hx hb d_M_stored_70 rfl (lv_at hl 0 rfl) ?_
    refine va_get (D := (dC, dI)) (ci := 8) (v := .ref p2) (C := "UpcastStreamsModel") (T := F_M) (N := 29) hx hb hts in_M hown hK hP 0 rfl rfl 4 (by decide) (hts _ uw_3_135) (fun _ h9 => h9) rfl d_M_stored_71 ?_
    refine lv_iload_n hx hb d_M_stored_74 rfl (lv_at hl 1 rfl) ?_
    refine us_iald (j := i) hx hb hK hP 2 0 rfl rfl (vp_in_nI (by omega) (by omega)) (nI_clamp (by omega)) d_M_stored_75 ?_
    refine lv_goto (tgt := 113) hx hb d_M_stored_76 (by decide) ?_
    exact us_iret hQ (by decide) (by decide) hx hb hr hlk hK hS (MT i) rfl (rfl) hP hD d_M_stored_113
  · refine lv_aload_n hx hb d_M_stored_0 rfl (lv_at hl 0 rfl) ?_
    refine lv_iload_n hx hb d_M_stored_1 rfl (lv_at hl 1 rfl) ?_
    refine lv_if_lt (tgt := 22) hx hb d_M_stored_2 (by decide) (fun h => absurd h (nI_pos (by omega))) (fun c22 => ?_)
    refine lv_iload_n hx hb d_M_stored_5 rfl (lv_at hl 1 rfl) ?_
    refine lv_aload_n hx hb d_M_stored_6 rfl (lv_at hl 0 rfl) ?_
    refine va_get (D := (dC, dI)) (ci := 8) (v := .int (nI n)) (C := "UpcastStreamsModel") (T := F_M) (N := 29) hx hb hts in_M hown hK hP 0 rfl rfl 2 (by decide) (hts _ uw_3_133) (fun _ h9 => h9) rfl d_M_stored_7 ?_
    refine lv_icmp_ge (tgt := 22) hx hb d_M_stored_10 (by decide) (fun h => absurd h (nI_ge hi (by omega))) (fun c23 => ?_)
    refine lv_iload_n hx hb d_M_stored_13 rfl (lv_at hl 2 rfl) ?_
    refine lv_if_lt (tgt := 22) hx hb d_M_stored_14 (by decide) (fun h => absurd h (by decide)) (fun c24 => ?_)
    refine lv_iload_n hx hb d_M_stored_17 rfl (lv_at hl 2 rfl) ?_
    refine lv_iconst (v := (5 : Int32)) hx hb d_M_stored_18 (by decide) ?_
    refine lv_icmp_le (tgt := 26) hx hb d_M_stored_19 (by decide) (fun c25 => ?_) (fun h => absurd h (by decide))
    refine lv_iconst (v := (0 : Int32)) hx hb d_M_stored_26 (by decide) ?_
    refine va_put (D := (dC, dI)) (ci := 8) (v := .int (0 : Int32)) (ty := .int) (C := "UpcastStreamsModel") (T := F_M) (N := 29) hx hb hts in_M t_M t_M_ok n_M hown hK hP hD hS 0 rfl rfl 1 (by decide) (hts _ uw_3_132) (fun _ h9 => h9) rfl (by decide +kernel) rfl rfl (Nat.le_of_ble_eq_true rfl) d_M_stored_27 (fun H locs hP hD hS => ?_)
    have hP : va_P (dC, dI) vwCl [(mm, .inr (8, [.int mp, .int (0 : Int32), .int (nI n), .ref p1, .ref p2, .ref p3, .ref p4, .ref p5, .int (nI un), .ref p6, .ref p7, .ref p8, .int cm, .ref p9, .ref p10, .ref p11, .int ope, .ref p12, .ref p13, .ref p14, .ref p15, .ref p16, .ref p17, .ref p18, .ref p19, .ref p20, .ref p21, .int (nI he), .ref p22])), (p1, .inl (cI, 64, .inl MS)), (p2, .inl (cI, 68, .inl MT)), (p3, .inl (cI, 68, .inl MF)), (p4, .inl (cI, 68, .inl MU)), (p5, .inl (cI, 68, .inl MV))] H := hP
    have hD : va_D zA [(mm, .inr (8, [.int mp, .int (0 : Int32), .int (nI n), .ref p1, .ref p2, .ref p3, .ref p4, .ref p5, .int (nI un), .ref p6, .ref p7, .ref p8, .int cm, .ref p9, .ref p10, .ref p11, .int ope, .ref p12, .ref p13, .ref p14, .ref p15, .ref p16, .ref p17, .ref p18, .ref p19, .ref p20, .ref p21, .int (nI he), .ref p22])), (p1, .inl (cI, 64, .inl MS)), (p2, .inl (cI, 68, .inl MT)), (p3, .inl (cI, 68, .inl MF)), (p4, .inl (cI, 68, .inl MU)), (p5, .inl (cI, 68, .inl MV))] := hD
    refine lv_aload_n hx hb d_M_stored_30 rfl (lv_at hl 0 rfl) ?_
    refine va_get (D := (dC, dI)) (ci := 8) (v := .int (0 : Int32)) (C := "UpcastStreamsModel") (T := F_M) (N := 29) hx hb hts in_M hown hK hP 0 rfl rfl 1 (by decide) (hts _ uw_3_132) (fun _ h9 => h9) rfl d_M_stored_31 ?_
    refine lv_if_le (tgt := 39) hx hb d_M_stored_34 (by decide) (fun c26 => ?_) (fun h => absurd h (by decide))
    refine lv_iload_n hx hb d_M_stored_39 rfl (lv_at hl 2 rfl) ?_
    refine lv_if_ne (tgt := 52) hx hb d_M_stored_40 (by decide) (fun c27 => ?_) (fun h => absurd h (by decide))
    refine lv_iload_n hx hb d_M_stored_52 rfl (lv_at hl 2 rfl) ?_
    refine lv_iconst (v := (1 : Int32)) hx hb d_M_stored_53 (by decide) ?_
    refine lv_icmp_ne (tgt := 65) hx hb d_M_stored_54 (by decide) (fun c28 => ?_) (fun h => absurd h (by decide))
    refine lv_iload_n hx hb d_M_stored_65 rfl (lv_at hl 2 rfl) ?_
    refine lv_iconst (v := (2 : Int32)) hx hb d_M_stored_66 (by decide) ?_
    refine lv_icmp_ne (tgt := 79) hx hb d_M_stored_67 (by decide) (fun c29 => ?_) (fun h => absurd h (by decide))
    refine lv_iload_n hx hb d_M_stored_79 rfl (lv_at hl 2 rfl) ?_
    refine lv_iconst (v := (3 : Int32)) hx hb d_M_stored_80 (by decide) ?_
    refine lv_icmp_ne (tgt := 93) hx hb d_M_stored_81 (by decide) (fun h => absurd h (by decide)) (fun c30 => ?_)
    refine lv_aload_n hx hb d_M_stored_84 rfl (lv_at hl 0 rfl) ?_
    refine va_get (D := (dC, dI)) (ci := 8) (v := .ref p3) (C := "UpcastStreamsModel") (T := F_M) (N := 29) hx hb hts in_M hown hK hP 0 rfl rfl 5 (by decide) (hts _ uw_3_136) (fun _ h9 => h9) rfl d_M_stored_85 ?_
    refine lv_iload_n hx hb d_M_stored_88 rfl (lv_at hl 1 rfl) ?_
    refine us_iald (j := i) hx hb hK hP 3 0 rfl rfl (vp_in_nI (by omega) (by omega)) (nI_clamp (by omega)) d_M_stored_89 ?_
    refine lv_goto (tgt := 113) hx hb d_M_stored_90 (by decide) ?_
    exact us_iret hQ (by decide) (by decide) hx hb hr hlk hK hS (MF i) rfl (rfl) hP hD d_M_stored_113
  · refine lv_aload_n hx hb d_M_stored_0 rfl (lv_at hl 0 rfl) ?_
    refine lv_iload_n hx hb d_M_stored_1 rfl (lv_at hl 1 rfl) ?_
    refine lv_if_lt (tgt := 22) hx hb d_M_stored_2 (by decide) (fun h => absurd h (nI_pos (by omega))) (fun c31 => ?_)
    refine lv_iload_n hx hb d_M_stored_5 rfl (lv_at hl 1 rfl) ?_
    refine lv_aload_n hx hb d_M_stored_6 rfl (lv_at hl 0 rfl) ?_
    refine va_get (D := (dC, dI)) (ci := 8) (v := .int (nI n)) (C := "UpcastStreamsModel") (T := F_M) (N := 29) hx hb hts in_M hown hK hP 0 rfl rfl 2 (by decide) (hts _ uw_3_133) (fun _ h9 => h9) rfl d_M_stored_7 ?_
    refine lv_icmp_ge (tgt := 22) hx hb d_M_stored_10 (by decide) (fun h => absurd h (nI_ge hi (by omega))) (fun c32 => ?_)
    refine lv_iload_n hx hb d_M_stored_13 rfl (lv_at hl 2 rfl) ?_
    refine lv_if_lt (tgt := 22) hx hb d_M_stored_14 (by decide) (fun h => absurd h (by decide)) (fun c33 => ?_)
    refine lv_iload_n hx hb d_M_stored_17 rfl (lv_at hl 2 rfl) ?_
    refine lv_iconst (v := (5 : Int32)) hx hb d_M_stored_18 (by decide) ?_
    refine lv_icmp_le (tgt := 26) hx hb d_M_stored_19 (by decide) (fun c34 => ?_) (fun h => absurd h (by decide))
    refine lv_iconst (v := (0 : Int32)) hx hb d_M_stored_26 (by decide) ?_
    refine va_put (D := (dC, dI)) (ci := 8) (v := .int (0 : Int32)) (ty := .int) (C := "UpcastStreamsModel") (T := F_M) (N := 29) hx hb hts in_M t_M t_M_ok n_M hown hK hP hD hS 0 rfl rfl 1 (by decide) (hts _ uw_3_132) (fun _ h9 => h9) rfl (by decide +kernel) rfl rfl (Nat.le_of_ble_eq_true rfl) d_M_stored_27 (fun H locs hP hD hS => ?_)
    have hP : va_P (dC, dI) vwCl [(mm, .inr (8, [.int mp, .int (0 : Int32), .int (nI n), .ref p1, .ref p2, .ref p3, .ref p4, .ref p5, .int (nI un), .ref p6, .ref p7, .ref p8, .int cm, .ref p9, .ref p10, .ref p11, .int ope, .ref p12, .ref p13, .ref p14, .ref p15, .ref p16, .ref p17, .ref p18, .ref p19, .ref p20, .ref p21, .int (nI he), .ref p22])), (p1, .inl (cI, 64, .inl MS)), (p2, .inl (cI, 68, .inl MT)), (p3, .inl (cI, 68, .inl MF)), (p4, .inl (cI, 68, .inl MU)), (p5, .inl (cI, 68, .inl MV))] H := hP
    have hD : va_D zA [(mm, .inr (8, [.int mp, .int (0 : Int32), .int (nI n), .ref p1, .ref p2, .ref p3, .ref p4, .ref p5, .int (nI un), .ref p6, .ref p7, .ref p8, .int cm, .ref p9, .ref p10, .ref p11, .int ope, .ref p12, .ref p13, .ref p14, .ref p15, .ref p16, .ref p17, .ref p18, .ref p19, .ref p20, .ref p21, .int (nI he), .ref p22])), (p1, .inl (cI, 64, .inl MS)), (p2, .inl (cI, 68, .inl MT)), (p3, .inl (cI, 68, .inl MF)), (p4, .inl (cI, 68, .inl MU)), (p5, .inl (cI, 68, .inl MV))] := hD
    refine lv_aload_n hx hb d_M_stored_30 rfl (lv_at hl 0 rfl) ?_
    refine va_get (D := (dC, dI)) (ci := 8) (v := .int (0 : Int32)) (C := "UpcastStreamsModel") (T := F_M) (N := 29) hx hb hts in_M hown hK hP 0 rfl rfl 1 (by decide) (hts _ uw_3_132) (fun _ h9 => h9) rfl d_M_stored_31 ?_
    refine lv_if_le (tgt := 39) hx hb d_M_stored_34 (by decide) (fun c35 => ?_) (fun h => absurd h (by decide))
    refine lv_iload_n hx hb d_M_stored_39 rfl (lv_at hl 2 rfl) ?_
    refine lv_if_ne (tgt := 52) hx hb d_M_stored_40 (by decide) (fun c36 => ?_) (fun h => absurd h (by decide))
    refine lv_iload_n hx hb d_M_stored_52 rfl (lv_at hl 2 rfl) ?_
    refine lv_iconst (v := (1 : Int32)) hx hb d_M_stored_53 (by decide) ?_
    refine lv_icmp_ne (tgt := 65) hx hb d_M_stored_54 (by decide) (fun c37 => ?_) (fun h => absurd h (by decide))
    refine lv_iload_n hx hb d_M_stored_65 rfl (lv_at hl 2 rfl) ?_
    refine lv_iconst (v := (2 : Int32)) hx hb d_M_stored_66 (by decide) ?_
    refine lv_icmp_ne (tgt := 79) hx hb d_M_stored_67 (by decide) (fun c38 => ?_) (fun h => absurd h (by decide))
    refine lv_iload_n hx hb d_M_stored_79 rfl (lv_at hl 2 rfl) ?_
    refine lv_iconst (v := (3 : Int32)) hx hb d_M_stored_80 (by decide) ?_
    refine lv_icmp_ne (tgt := 93) hx hb d_M_stored_81 (by decide) (fun c39 => ?_) (fun h => absurd h (by decide))
    refine lv_iload_n hx hb d_M_stored_93 rfl (lv_at hl 2 rfl) ?_
    refine lv_iconst (v := (4 : Int32)) hx hb d_M_stored_94 (by decide) ?_
    refine lv_icmp_ne (tgt := 107) hx hb d_M_stored_95 (by decide) (fun h => absurd h (by decide)) (fun c40 => ?_)
    refine lv_aload_n hx hb d_M_stored_98 rfl (lv_at hl 0 rfl) ?_
    refine va_get (D := (dC, dI)) (ci := 8) (v := .ref p4) (C := "UpcastStreamsModel") (T := F_M) (N := 29) hx hb hts in_M hown hK hP 0 rfl rfl 6 (by decide) (hts _ uw_3_137) (fun _ h9 => h9) rfl d_M_stored_99 ?_
    refine lv_iload_n hx hb d_M_stored_102 rfl (lv_at hl 1 rfl) ?_
    refine us_iald (j := i) hx hb hK hP 4 0 rfl rfl (vp_in_nI (by omega) (by omega)) (nI_clamp (by omega)) d_M_stored_103 ?_
    refine lv_goto (tgt := 113) hx hb d_M_stored_104 (by decide) ?_
    exact us_iret hQ (by decide) (by decide) hx hb hr hlk hK hS (MU i) rfl (rfl) hP hD d_M_stored_113
  · refine lv_aload_n hx hb d_M_stored_0 rfl (lv_at hl 0 rfl) ?_
    refine lv_iload_n hx hb d_M_stored_1 rfl (lv_at hl 1 rfl) ?_
    refine lv_if_lt (tgt := 22) hx hb d_M_stored_2 (by decide) (fun h => absurd h (nI_pos (by omega))) (fun c41 => ?_)
    refine lv_iload_n hx hb d_M_stored_5 rfl (lv_at hl 1 rfl) ?_
    refine lv_aload_n hx hb d_M_stored_6 rfl (lv_at hl 0 rfl) ?_
    refine va_get (D := (dC, dI)) (ci := 8) (v := .int (nI n)) (C := "UpcastStreamsModel") (T := F_M) (N := 29) hx hb hts in_M hown hK hP 0 rfl rfl 2 (by decide) (hts _ uw_3_133) (fun _ h9 => h9) rfl d_M_stored_7 ?_
    refine lv_icmp_ge (tgt := 22) hx hb d_M_stored_10 (by decide) (fun h => absurd h (nI_ge hi (by omega))) (fun c42 => ?_)
    refine lv_iload_n hx hb d_M_stored_13 rfl (lv_at hl 2 rfl) ?_
    refine lv_if_lt (tgt := 22) hx hb d_M_stored_14 (by decide) (fun h => absurd h (by decide)) (fun c43 => ?_)
    refine lv_iload_n hx hb d_M_stored_17 rfl (lv_at hl 2 rfl) ?_
    refine lv_iconst (v := (5 : Int32)) hx hb d_M_stored_18 (by decide) ?_
    refine lv_icmp_le (tgt := 26) hx hb d_M_stored_19 (by decide) (fun c44 => ?_) (fun h => absurd h (by decide))
    refine lv_iconst (v := (0 : Int32)) hx hb d_M_stored_26 (by decide) ?_
    refine va_put (D := (dC, dI)) (ci := 8) (v := .int (0 : Int32)) (ty := .int) (C := "UpcastStreamsModel") (T := F_M) (N := 29) hx hb hts in_M t_M t_M_ok n_M hown hK hP hD hS 0 rfl rfl 1 (by decide) (hts _ uw_3_132) (fun _ h9 => h9) rfl (by decide +kernel) rfl rfl (Nat.le_of_ble_eq_true rfl) d_M_stored_27 (fun H locs hP hD hS => ?_)
    have hP : va_P (dC, dI) vwCl [(mm, .inr (8, [.int mp, .int (0 : Int32), .int (nI n), .ref p1, .ref p2, .ref p3, .ref p4, .ref p5, .int (nI un), .ref p6, .ref p7, .ref p8, .int cm, .ref p9, .ref p10, .ref p11, .int ope, .ref p12, .ref p13, .ref p14, .ref p15, .ref p16, .ref p17, .ref p18, .ref p19, .ref p20, .ref p21, .int (nI he), .ref p22])), (p1, .inl (cI, 64, .inl MS)), (p2, .inl (cI, 68, .inl MT)), (p3, .inl (cI, 68, .inl MF)), (p4, .inl (cI, 68, .inl MU)), (p5, .inl (cI, 68, .inl MV))] H := hP
    have hD : va_D zA [(mm, .inr (8, [.int mp, .int (0 : Int32), .int (nI n), .ref p1, .ref p2, .ref p3, .ref p4, .ref p5, .int (nI un), .ref p6, .ref p7, .ref p8, .int cm, .ref p9, .ref p10, .ref p11, .int ope, .ref p12, .ref p13, .ref p14, .ref p15, .ref p16, .ref p17, .ref p18, .ref p19, .ref p20, .ref p21, .int (nI he), .ref p22])), (p1, .inl (cI, 64, .inl MS)), (p2, .inl (cI, 68, .inl MT)), (p3, .inl (cI, 68, .inl MF)), (p4, .inl (cI, 68, .inl MU)), (p5, .inl (cI, 68, .inl MV))] := hD
    refine lv_aload_n hx hb d_M_stored_30 rfl (lv_at hl 0 rfl) ?_
    refine va_get (D := (dC, dI)) (ci := 8) (v := .int (0 : Int32)) (C := "UpcastStreamsModel") (T := F_M) (N := 29) hx hb hts in_M hown hK hP 0 rfl rfl 1 (by decide) (hts _ uw_3_132) (fun _ h9 => h9) rfl d_M_stored_31 ?_
    refine lv_if_le (tgt := 39) hx hb d_M_stored_34 (by decide) (fun c45 => ?_) (fun h => absurd h (by decide))
    refine lv_iload_n hx hb d_M_stored_39 rfl (lv_at hl 2 rfl) ?_
    refine lv_if_ne (tgt := 52) hx hb d_M_stored_40 (by decide) (fun c46 => ?_) (fun h => absurd h (by decide))
    refine lv_iload_n hx hb d_M_stored_52 rfl (lv_at hl 2 rfl) ?_
    refine lv_iconst (v := (1 : Int32)) hx hb d_M_stored_53 (by decide) ?_
    refine lv_icmp_ne (tgt := 65) hx hb d_M_stored_54 (by decide) (fun c47 => ?_) (fun h => absurd h (by decide))
    refine lv_iload_n hx hb d_M_stored_65 rfl (lv_at hl 2 rfl) ?_
    refine lv_iconst (v := (2 : Int32)) hx hb d_M_stored_66 (by decide) ?_
    refine lv_icmp_ne (tgt := 79) hx hb d_M_stored_67 (by decide) (fun c48 => ?_) (fun h => absurd h (by decide))
    refine lv_iload_n hx hb d_M_stored_79 rfl (lv_at hl 2 rfl) ?_
    refine lv_iconst (v := (3 : Int32)) hx hb d_M_stored_80 (by decide) ?_
    refine lv_icmp_ne (tgt := 93) hx hb d_M_stored_81 (by decide) (fun c49 => ?_) (fun h => absurd h (by decide))
    refine lv_iload_n hx hb d_M_stored_93 rfl (lv_at hl 2 rfl) ?_
    refine lv_iconst (v := (4 : Int32)) hx hb d_M_stored_94 (by decide) ?_
    refine lv_icmp_ne (tgt := 107) hx hb d_M_stored_95 (by decide) (fun c50 => ?_) (fun h => absurd h (by decide))
    refine lv_aload_n hx hb d_M_stored_107 rfl (lv_at hl 0 rfl) ?_
    refine va_get (D := (dC, dI)) (ci := 8) (v := .ref p5) (C := "UpcastStreamsModel") (T := F_M) (N := 29) hx hb hts in_M hown hK hP 0 rfl rfl 7 (by decide) (hts _ uw_3_138) (fun _ h9 => h9) rfl d_M_stored_108 ?_
    refine lv_iload_n hx hb d_M_stored_111 rfl (lv_at hl 1 rfl) ?_
    refine us_iald (j := i) hx hb hK hP 5 0 rfl rfl (vp_in_nI (by omega) (by omega)) (nI_clamp (by omega)) d_M_stored_112 ?_
    exact us_iret hQ (by decide) (by decide) hx hb hr hlk hK hS (MV i) rfl (rfl) hP hD d_M_stored_113

set_option maxHeartbeats 4000000 in
set_option maxRecDepth 100000 in
theorem m_stored_no (zl : Launch) (dC : Nat → ClassId) (dI : Nat → Nat → Nat) (cI cL cS cR : ClassId) (mm : Nat) (p1 : Nat) (p2 : Nat) (p3 : Nat) (p4 : Nat) (p5 : Nat) (p6 : Nat) (p7 : Nat) (p8 : Nat) (p9 : Nat) (p10 : Nat) (p11 : Nat) (p12 : Nat) (p13 : Nat) (p14 : Nat) (p15 : Nat) (p16 : Nat) (p17 : Nat) (p18 : Nat) (p19 : Nat) (p20 : Nat) (p21 : Nat) (p22 : Nat) (mp : Int32) (co : Int32) (cm : Int32) (ope : Int32) (n : Nat) (un : Nat) (he : Nat) (y : Int32) (z : Int32) (hbad : ¬ ((0 ≤ y ∧ y < nI n) ∧ 0 ≤ z ∧ z < 6)) : us_Met (S := Unit) zl y_M_stored w_M_stored ({ frames := 0, cells := 0, slots := 0, locals := 0 }) (dC, dI) vwCl (us_ty cI cL cS cR) [.ref mm, .int y, .int z] [(mm, .inr (8, [.int mp, .int co, .int (nI n), .ref p1, .ref p2, .ref p3, .ref p4, .ref p5, .int (nI un), .ref p6, .ref p7, .ref p8, .int cm, .ref p9, .ref p10, .ref p11, .int ope, .ref p12, .ref p13, .ref p14, .ref p15, .ref p16, .ref p17, .ref p18, .ref p19, .ref p20, .ref p21, .int (nI he), .ref p22]))] (fun u => some (.int (0 : Int32))) (fun u => True) (fun u => [(mm, .inr (8, [.int mp, .int (1 : Int32), .int (nI n), .ref p1, .ref p2, .ref p3, .ref p4, .ref p5, .int (nI un), .ref p6, .ref p7, .ref p8, .int cm, .ref p9, .ref p10, .ref p11, .int ope, .ref p12, .ref p13, .ref p14, .ref p15, .ref p16, .ref p17, .ref p18, .ref p19, .ref p20, .ref p21, .int (nI he), .ref p22]))]) := by
  refine us_ofW (cc := b_M_stored) (maxL := 3) (ret := (some .int)) (by decide) (Nat.le_of_ble_eq_true rfl) ?_
  intro zp ze zs zm args below meth zc zA ls zQ hQ hx hb hr hml hts hown hlk hin hl hK hP hD hS hA
  have hown : zs.vm.findClass "UpcastStreamsModel" = some zm.cls := hown
  have hl : lv_has ls 3 [(0, .ref mm), (1, .int y), (2, .int z)] := hl
  obtain ⟨H, hH⟩ : ∃ H, H = zs.heap := ⟨_, rfl⟩
  rw [← hH] at hP ⊢
  have hS : va_S zA zs.heap H [] := hH ▸ hS
  generalize ([] : List Loc) = locs at hS ⊢
  refine lv_aload_n hx hb d_M_stored_0 rfl (lv_at hl 0 rfl) ?_
  refine lv_iload_n hx hb d_M_stored_1 rfl (lv_at hl 1 rfl) ?_
  refine lv_if_lt (tgt := 22) hx hb d_M_stored_2 (by decide) (fun c2 => ?_) (fun c2 => ?_)
  · refine lv_iconst (v := (1 : Int32)) hx hb d_M_stored_22 (by decide) ?_
    refine lv_goto (tgt := 27) hx hb d_M_stored_23 (by decide) ?_
    refine va_put (D := (dC, dI)) (ci := 8) (v := .int (1 : Int32)) (ty := .int) (C := "UpcastStreamsModel") (T := F_M) (N := 29) hx hb hts in_M t_M t_M_ok n_M hown hK hP hD hS 0 rfl rfl 1 (by decide) (hts _ uw_3_132) (fun _ h9 => h9) rfl (by decide +kernel) rfl rfl (Nat.le_of_ble_eq_true rfl) d_M_stored_27 (fun H locs hP hD hS => ?_)
    have hP : va_P (dC, dI) vwCl [(mm, .inr (8, [.int mp, .int (1 : Int32), .int (nI n), .ref p1, .ref p2, .ref p3, .ref p4, .ref p5, .int (nI un), .ref p6, .ref p7, .ref p8, .int cm, .ref p9, .ref p10, .ref p11, .int ope, .ref p12, .ref p13, .ref p14, .ref p15, .ref p16, .ref p17, .ref p18, .ref p19, .ref p20, .ref p21, .int (nI he), .ref p22]))] H := hP
    have hD : va_D zA [(mm, .inr (8, [.int mp, .int (1 : Int32), .int (nI n), .ref p1, .ref p2, .ref p3, .ref p4, .ref p5, .int (nI un), .ref p6, .ref p7, .ref p8, .int cm, .ref p9, .ref p10, .ref p11, .int ope, .ref p12, .ref p13, .ref p14, .ref p15, .ref p16, .ref p17, .ref p18, .ref p19, .ref p20, .ref p21, .int (nI he), .ref p22]))] := hD
    refine lv_aload_n hx hb d_M_stored_30 rfl (lv_at hl 0 rfl) ?_
    refine va_get (D := (dC, dI)) (ci := 8) (v := .int (1 : Int32)) (C := "UpcastStreamsModel") (T := F_M) (N := 29) hx hb hts in_M hown hK hP 0 rfl rfl 1 (by decide) (hts _ uw_3_132) (fun _ h9 => h9) rfl d_M_stored_31 ?_
    refine lv_if_le (tgt := 39) hx hb d_M_stored_34 (by decide) (fun h => absurd h (by decide)) (fun c2 => ?_)
    refine lv_iconst (v := (0 : Int32)) hx hb d_M_stored_37 (by decide) ?_
    exact us_iret hQ (by decide) (by decide) hx hb hr hlk hK hS () rfl (by simp) hP hD d_M_stored_38
  · refine lv_iload_n hx hb d_M_stored_5 rfl (lv_at hl 1 rfl) ?_
    refine lv_aload_n hx hb d_M_stored_6 rfl (lv_at hl 0 rfl) ?_
    refine va_get (D := (dC, dI)) (ci := 8) (v := .int (nI n)) (C := "UpcastStreamsModel") (T := F_M) (N := 29) hx hb hts in_M hown hK hP 0 rfl rfl 2 (by decide) (hts _ uw_3_133) (fun _ h9 => h9) rfl d_M_stored_7 ?_
    refine lv_icmp_ge (tgt := 22) hx hb d_M_stored_10 (by decide) (fun c10 => ?_) (fun c10 => ?_)
    · refine lv_iconst (v := (1 : Int32)) hx hb d_M_stored_22 (by decide) ?_
      refine lv_goto (tgt := 27) hx hb d_M_stored_23 (by decide) ?_
      refine va_put (D := (dC, dI)) (ci := 8) (v := .int (1 : Int32)) (ty := .int) (C := "UpcastStreamsModel") (T := F_M) (N := 29) hx hb hts in_M t_M t_M_ok n_M hown hK hP hD hS 0 rfl rfl 1 (by decide) (hts _ uw_3_132) (fun _ h9 => h9) rfl (by decide +kernel) rfl rfl (Nat.le_of_ble_eq_true rfl) d_M_stored_27 (fun H locs hP hD hS => ?_)
      have hP : va_P (dC, dI) vwCl [(mm, .inr (8, [.int mp, .int (1 : Int32), .int (nI n), .ref p1, .ref p2, .ref p3, .ref p4, .ref p5, .int (nI un), .ref p6, .ref p7, .ref p8, .int cm, .ref p9, .ref p10, .ref p11, .int ope, .ref p12, .ref p13, .ref p14, .ref p15, .ref p16, .ref p17, .ref p18, .ref p19, .ref p20, .ref p21, .int (nI he), .ref p22]))] H := hP
      have hD : va_D zA [(mm, .inr (8, [.int mp, .int (1 : Int32), .int (nI n), .ref p1, .ref p2, .ref p3, .ref p4, .ref p5, .int (nI un), .ref p6, .ref p7, .ref p8, .int cm, .ref p9, .ref p10, .ref p11, .int ope, .ref p12, .ref p13, .ref p14, .ref p15, .ref p16, .ref p17, .ref p18, .ref p19, .ref p20, .ref p21, .int (nI he), .ref p22]))] := hD
      refine lv_aload_n hx hb d_M_stored_30 rfl (lv_at hl 0 rfl) ?_
      refine va_get (D := (dC, dI)) (ci := 8) (v := .int (1 : Int32)) (C := "UpcastStreamsModel") (T := F_M) (N := 29) hx hb hts in_M hown hK hP 0 rfl rfl 1 (by decide) (hts _ uw_3_132) (fun _ h9 => h9) rfl d_M_stored_31 ?_
      refine lv_if_le (tgt := 39) hx hb d_M_stored_34 (by decide) (fun h => absurd h (by decide)) (fun c4 => ?_)
      refine lv_iconst (v := (0 : Int32)) hx hb d_M_stored_37 (by decide) ?_
      exact us_iret hQ (by decide) (by decide) hx hb hr hlk hK hS () rfl (by simp) hP hD d_M_stored_38
    · refine lv_iload_n hx hb d_M_stored_13 rfl (lv_at hl 2 rfl) ?_
      refine lv_if_lt (tgt := 22) hx hb d_M_stored_14 (by decide) (fun c14 => ?_) (fun c14 => ?_)
      · refine lv_iconst (v := (1 : Int32)) hx hb d_M_stored_22 (by decide) ?_
        refine lv_goto (tgt := 27) hx hb d_M_stored_23 (by decide) ?_
        refine va_put (D := (dC, dI)) (ci := 8) (v := .int (1 : Int32)) (ty := .int) (C := "UpcastStreamsModel") (T := F_M) (N := 29) hx hb hts in_M t_M t_M_ok n_M hown hK hP hD hS 0 rfl rfl 1 (by decide) (hts _ uw_3_132) (fun _ h9 => h9) rfl (by decide +kernel) rfl rfl (Nat.le_of_ble_eq_true rfl) d_M_stored_27 (fun H locs hP hD hS => ?_)
        have hP : va_P (dC, dI) vwCl [(mm, .inr (8, [.int mp, .int (1 : Int32), .int (nI n), .ref p1, .ref p2, .ref p3, .ref p4, .ref p5, .int (nI un), .ref p6, .ref p7, .ref p8, .int cm, .ref p9, .ref p10, .ref p11, .int ope, .ref p12, .ref p13, .ref p14, .ref p15, .ref p16, .ref p17, .ref p18, .ref p19, .ref p20, .ref p21, .int (nI he), .ref p22]))] H := hP
        have hD : va_D zA [(mm, .inr (8, [.int mp, .int (1 : Int32), .int (nI n), .ref p1, .ref p2, .ref p3, .ref p4, .ref p5, .int (nI un), .ref p6, .ref p7, .ref p8, .int cm, .ref p9, .ref p10, .ref p11, .int ope, .ref p12, .ref p13, .ref p14, .ref p15, .ref p16, .ref p17, .ref p18, .ref p19, .ref p20, .ref p21, .int (nI he), .ref p22]))] := hD
        refine lv_aload_n hx hb d_M_stored_30 rfl (lv_at hl 0 rfl) ?_
        refine va_get (D := (dC, dI)) (ci := 8) (v := .int (1 : Int32)) (C := "UpcastStreamsModel") (T := F_M) (N := 29) hx hb hts in_M hown hK hP 0 rfl rfl 1 (by decide) (hts _ uw_3_132) (fun _ h9 => h9) rfl d_M_stored_31 ?_
        refine lv_if_le (tgt := 39) hx hb d_M_stored_34 (by decide) (fun h => absurd h (by decide)) (fun c6 => ?_)
        refine lv_iconst (v := (0 : Int32)) hx hb d_M_stored_37 (by decide) ?_
        exact us_iret hQ (by decide) (by decide) hx hb hr hlk hK hS () rfl (by simp) hP hD d_M_stored_38
      · refine lv_iload_n hx hb d_M_stored_17 rfl (lv_at hl 2 rfl) ?_
        refine lv_iconst (v := (5 : Int32)) hx hb d_M_stored_18 (by decide) ?_
        refine lv_icmp_le (tgt := 26) hx hb d_M_stored_19 (by decide) (fun h => absurd ⟨⟨Int32.not_lt.mp c2, Int32.not_le.mp c10⟩, Int32.not_lt.mp c14, us_le_lt h⟩ hbad) (fun c7 => ?_)
        refine lv_iconst (v := (1 : Int32)) hx hb d_M_stored_22 (by decide) ?_
        refine lv_goto (tgt := 27) hx hb d_M_stored_23 (by decide) ?_
        refine va_put (D := (dC, dI)) (ci := 8) (v := .int (1 : Int32)) (ty := .int) (C := "UpcastStreamsModel") (T := F_M) (N := 29) hx hb hts in_M t_M t_M_ok n_M hown hK hP hD hS 0 rfl rfl 1 (by decide) (hts _ uw_3_132) (fun _ h9 => h9) rfl (by decide +kernel) rfl rfl (Nat.le_of_ble_eq_true rfl) d_M_stored_27 (fun H locs hP hD hS => ?_)
        have hP : va_P (dC, dI) vwCl [(mm, .inr (8, [.int mp, .int (1 : Int32), .int (nI n), .ref p1, .ref p2, .ref p3, .ref p4, .ref p5, .int (nI un), .ref p6, .ref p7, .ref p8, .int cm, .ref p9, .ref p10, .ref p11, .int ope, .ref p12, .ref p13, .ref p14, .ref p15, .ref p16, .ref p17, .ref p18, .ref p19, .ref p20, .ref p21, .int (nI he), .ref p22]))] H := hP
        have hD : va_D zA [(mm, .inr (8, [.int mp, .int (1 : Int32), .int (nI n), .ref p1, .ref p2, .ref p3, .ref p4, .ref p5, .int (nI un), .ref p6, .ref p7, .ref p8, .int cm, .ref p9, .ref p10, .ref p11, .int ope, .ref p12, .ref p13, .ref p14, .ref p15, .ref p16, .ref p17, .ref p18, .ref p19, .ref p20, .ref p21, .int (nI he), .ref p22]))] := hD
        refine lv_aload_n hx hb d_M_stored_30 rfl (lv_at hl 0 rfl) ?_
        refine va_get (D := (dC, dI)) (ci := 8) (v := .int (1 : Int32)) (C := "UpcastStreamsModel") (T := F_M) (N := 29) hx hb hts in_M hown hK hP 0 rfl rfl 1 (by decide) (hts _ uw_3_132) (fun _ h9 => h9) rfl d_M_stored_31 ?_
        refine lv_if_le (tgt := 39) hx hb d_M_stored_34 (by decide) (fun h => absurd h (by decide)) (fun c8 => ?_)
        refine lv_iconst (v := (0 : Int32)) hx hb d_M_stored_37 (by decide) ?_
        exact us_iret hQ (by decide) (by decide) hx hb hr hlk hK hS () rfl (by simp) hP hD d_M_stored_38

set_option maxHeartbeats 4000000 in
set_option maxRecDepth 100000 in
theorem m_learn (zl : Launch) (dC : Nat → ClassId) (dI : Nat → Nat → Nat) (cI cL cS cR : ClassId) (mm : Nat) (p1 : Nat) (p2 : Nat) (p3 : Nat) (p4 : Nat) (p5 : Nat) (p6 : Nat) (p7 : Nat) (p8 : Nat) (p9 : Nat) (p10 : Nat) (p11 : Nat) (p12 : Nat) (p13 : Nat) (p14 : Nat) (p15 : Nat) (p16 : Nat) (p17 : Nat) (p18 : Nat) (p19 : Nat) (p20 : Nat) (p21 : Nat) (p22 : Nat) (mp : Int32) (co : Int32) (cm : Int32) (ope : Int32) (n : Nat) (un : Nat) (he : Nat) (KD : Nat → Int32) (KS : Nat → Int32) (SN : Nat → Int32) (t : Nat) (f : Nat) (kd : Nat) (y : Int32) (ht : t < 6) (h1 : 1 ≤ f) (h2 : f < 3) (hq : kd ≤ 6) (hy : kd = 5 → 0 ≤ y ∧ y < 6) : us_Met (S := (Nat → Int32)) zl y_M_learn w_M_learn ({ frames := 1, cells := 0, slots := 0, locals := 21 }) (dC, dI) vwCl (us_ty cI cL cS cR) [.ref mm, .int (nI t), .int (nI f), .int (nI kd), .int y] [(mm, .inr (8, [.int mp, .int co, .int (nI n), .ref p1, .ref p2, .ref p3, .ref p4, .ref p5, .int (nI un), .ref p6, .ref p7, .ref p8, .int cm, .ref p9, .ref p10, .ref p11, .int ope, .ref p12, .ref p13, .ref p14, .ref p15, .ref p16, .ref p17, .ref p18, .ref p19, .ref p20, .ref p21, .int (nI he), .ref p22])), (p6, .inl (cI, 12, .inl KD)), (p7, .inl (cI, 12, .inl KS)), (p8, .inl (cI, 16, .inl SN))] (fun _ => none) (fun u => ∀ q, q < 16 → u q = -1) (fun u => [(mm, .inr (8, [.int mp, .int (0 : Int32), .int (nI n), .ref p1, .ref p2, .ref p3, .ref p4, .ref p5, .int (nI 0), .ref p6, .ref p7, .ref p8, .int cm, .ref p9, .ref p10, .ref p11, .int ope, .ref p12, .ref p13, .ref p14, .ref p15, .ref p16, .ref p17, .ref p18, .ref p19, .ref p20, .ref p21, .int (nI 0), .ref p22])), (p6, .inl (cI, 12, .inl (upd KD (2 * t + f - 1) (nI kd)))), (p7, .inl (cI, 12, .inl (upd KS (2 * t + f - 1) y))), (p8, .inl (cI, 16, .inl u))]) := by
  refine us_ofW (cc := b_M_learn) (maxL := 5) (ret := none) (by decide) (Nat.le_of_ble_eq_true rfl) ?_
  intro zp ze zs zm args below meth zc zA ls zQ hQ hx hb hr hml hts hown hlk hin hl hK hP hD hS hA
  have hown : zs.vm.findClass "UpcastStreamsModel" = some zm.cls := hown
  have hl : lv_has ls 5 [(0, .ref mm), (1, .int (nI t)), (2, .int (nI f)), (3, .int (nI kd)), (4, .int y)] := hl
  obtain ⟨H, hH⟩ : ∃ H, H = zs.heap := ⟨_, rfl⟩
  rw [← hH] at hP ⊢
  have hS : va_S zA zs.heap H [] := hH ▸ hS
  generalize ([] : List Loc) = locs at hS ⊢
  refine lv_aload_n hx hb d_M_learn_0 rfl (lv_at hl 0 rfl) ?_
  refine lv_iload_n hx hb d_M_learn_1 rfl (lv_at hl 1 rfl) ?_
  refine us_callRS (As := [.int (nI t)]) (rest := [.ref mm]) ⟨hx, hb, hml, hown, hts⟩ (m_isType zl dC dI cI cL cS cR (nI t) ) ⟨callB_of 1 hts (us_gC k_M_isType) rfl rfl rfl (hts _ uw_1_10) (hts _ uw_3_228) h_M_isType.2 ⟨by decide, by decide⟩, (hts _ uw_3_229)⟩ hK hP hS hA [] rfl rfl hl.1 rfl (Nat.le_of_ble_eq_true rfl) d_M_learn_2 ⟨by decide, by decide⟩ (fun u H locs w2 hP hS => ?_)
  obtain ⟨r2, rfl⟩ : ∃ z, z = u := ⟨_, rfl⟩
  try dsimp only at w2
  refine W.eq (g2 := F0 zm 5 ls [.int r2, .ref mm]) rfl ?_
  refine lv_if_eq (tgt := 41) hx hb d_M_learn_5 (by decide) (fun h => absurd ⟨nI_pos' (by omega), nI_lt (b := 6) ht (by omega)⟩ (us_d0 w2 h)) (fun c1 => ?_)
  refine lv_iload_n hx hb d_M_learn_8 rfl (lv_at hl 2 rfl) ?_
  refine lv_iconst (v := (1 : Int32)) hx hb d_M_learn_9 (by decide) ?_
  refine lv_icmp_lt (tgt := 41) hx hb d_M_learn_10 (by decide) (fun h => absurd h (nI_nlt (b := 1) h1 (by omega))) (fun c2 => ?_)
  refine lv_iload_n hx hb d_M_learn_13 rfl (lv_at hl 2 rfl) ?_
  refine lv_iconst (v := (2 : Int32)) hx hb d_M_learn_14 (by decide) ?_
  refine lv_icmp_gt (tgt := 41) hx hb d_M_learn_15 (by decide) (fun h => absurd h (nI_nlt (a := 2) (by omega : f ≤ 2) (by omega))) (fun c3 => ?_)
  refine lv_iload_n hx hb d_M_learn_18 rfl (lv_at hl 3 rfl) ?_
  refine lv_if_lt (tgt := 41) hx hb d_M_learn_19 (by decide) (fun h => absurd h (nI_pos (by omega))) (fun c4 => ?_)
  refine lv_iload_n hx hb d_M_learn_22 rfl (lv_at hl 3 rfl) ?_
  refine lv_bipush (v := (6 : Int32)) hx hb d_M_learn_23 (by decide) ?_
  refine lv_icmp_gt (tgt := 41) hx hb d_M_learn_25 (by decide) (fun h => absurd h (nI_nlt (a := 6) hq (by omega))) (fun c5 => ?_)
  refine lv_iload_n hx hb d_M_learn_28 rfl (lv_at hl 3 rfl) ?_
  refine lv_iconst (v := (5 : Int32)) hx hb d_M_learn_29 (by decide) ?_
  refine lv_icmp_ne (tgt := 45) hx hb d_M_learn_30 (by decide) (fun c30 => ?_) (fun c30 => ?_)
  · refine lv_iconst (v := (0 : Int32)) hx hb d_M_learn_45 (by decide) ?_
    refine va_put (D := (dC, dI)) (ci := 8) (v := .int (0 : Int32)) (ty := .int) (C := "UpcastStreamsModel") (T := F_M) (N := 29) hx hb hts in_M t_M t_M_ok n_M hown hK hP hD hS 0 rfl rfl 1 (by decide) (hts _ uw_3_132) (fun _ h9 => h9) rfl (by decide +kernel) rfl rfl (Nat.le_of_ble_eq_true rfl) d_M_learn_46 (fun H locs hP hD hS => ?_)
    have hP : va_P (dC, dI) vwCl [(mm, .inr (8, [.int mp, .int (0 : Int32), .int (nI n), .ref p1, .ref p2, .ref p3, .ref p4, .ref p5, .int (nI un), .ref p6, .ref p7, .ref p8, .int cm, .ref p9, .ref p10, .ref p11, .int ope, .ref p12, .ref p13, .ref p14, .ref p15, .ref p16, .ref p17, .ref p18, .ref p19, .ref p20, .ref p21, .int (nI he), .ref p22])), (p6, .inl (cI, 12, .inl KD)), (p7, .inl (cI, 12, .inl KS)), (p8, .inl (cI, 16, .inl SN))] H := hP
    have hD : va_D zA [(mm, .inr (8, [.int mp, .int (0 : Int32), .int (nI n), .ref p1, .ref p2, .ref p3, .ref p4, .ref p5, .int (nI un), .ref p6, .ref p7, .ref p8, .int cm, .ref p9, .ref p10, .ref p11, .int ope, .ref p12, .ref p13, .ref p14, .ref p15, .ref p16, .ref p17, .ref p18, .ref p19, .ref p20, .ref p21, .int (nI he), .ref p22])), (p6, .inl (cI, 12, .inl KD)), (p7, .inl (cI, 12, .inl KS)), (p8, .inl (cI, 16, .inl SN))] := hD
    refine lv_aload_n hx hb d_M_learn_49 rfl (lv_at hl 0 rfl) ?_
    refine va_get (D := (dC, dI)) (ci := 8) (v := .int (0 : Int32)) (C := "UpcastStreamsModel") (T := F_M) (N := 29) hx hb hts in_M hown hK hP 0 rfl rfl 1 (by decide) (hts _ uw_3_132) (fun _ h9 => h9) rfl d_M_learn_50 ?_
    refine lv_if_le (tgt := 57) hx hb d_M_learn_53 (by decide) (fun c7 => ?_) (fun h => absurd h (by decide))
    refine lv_aload_n hx hb d_M_learn_57 rfl (lv_at hl 0 rfl) ?_
    refine va_get (D := (dC, dI)) (ci := 8) (v := .ref p6) (C := "UpcastStreamsModel") (T := F_M) (N := 29) hx hb hts in_M hown hK hP 0 rfl rfl 9 (by decide) (hts _ uw_3_140) (fun _ h9 => h9) rfl d_M_learn_58 ?_
    refine lv_iconst (v := (2 : Int32)) hx hb d_M_learn_61 (by decide) ?_
    refine lv_iload_n hx hb d_M_learn_62 rfl (lv_at hl 1 rfl) ?_
    refine lv_imul hx hb d_M_learn_63 ?_
    refine lv_iload_n hx hb d_M_learn_64 rfl (lv_at hl 2 rfl) ?_
    refine lv_iadd hx hb d_M_learn_65 ?_
    refine lv_iconst (v := (1 : Int32)) hx hb d_M_learn_66 (by decide) ?_
    refine lv_isub hx hb d_M_learn_67 ?_
    refine us_top (show ((((2 : Int32) * (nI t)) + (nI f)) - (1 : Int32)) = (nI (2 * t + f - 1)) from us_rule2 ht h1 (by omega)) ?_
    refine lv_iload_n hx hb d_M_learn_68 rfl (lv_at hl 3 rfl) ?_
    refine us_iast (j := 2 * t + f - 1) hx hb hK hP hD hS 1 0 rfl rfl (vp_in_nI (by omega) (by omega)) (nI_clamp (by omega)) d_M_learn_69 (fun H locs hP hD hS => ?_)
    have hP : va_P (dC, dI) vwCl [(mm, .inr (8, [.int mp, .int (0 : Int32), .int (nI n), .ref p1, .ref p2, .ref p3, .ref p4, .ref p5, .int (nI un), .ref p6, .ref p7, .ref p8, .int cm, .ref p9, .ref p10, .ref p11, .int ope, .ref p12, .ref p13, .ref p14, .ref p15, .ref p16, .ref p17, .ref p18, .ref p19, .ref p20, .ref p21, .int (nI he), .ref p22])), (p6, .inl (cI, 12, .inl (upd KD (2 * t + f - 1) (nI kd)))), (p7, .inl (cI, 12, .inl KS)), (p8, .inl (cI, 16, .inl SN))] H := hP
    have hD : va_D zA [(mm, .inr (8, [.int mp, .int (0 : Int32), .int (nI n), .ref p1, .ref p2, .ref p3, .ref p4, .ref p5, .int (nI un), .ref p6, .ref p7, .ref p8, .int cm, .ref p9, .ref p10, .ref p11, .int ope, .ref p12, .ref p13, .ref p14, .ref p15, .ref p16, .ref p17, .ref p18, .ref p19, .ref p20, .ref p21, .int (nI he), .ref p22])), (p6, .inl (cI, 12, .inl (upd KD (2 * t + f - 1) (nI kd)))), (p7, .inl (cI, 12, .inl KS)), (p8, .inl (cI, 16, .inl SN))] := hD
    refine lv_aload_n hx hb d_M_learn_70 rfl (lv_at hl 0 rfl) ?_
    refine va_get (D := (dC, dI)) (ci := 8) (v := .ref p7) (C := "UpcastStreamsModel") (T := F_M) (N := 29) hx hb hts in_M hown hK hP 0 rfl rfl 10 (by decide) (hts _ uw_3_141) (fun _ h9 => h9) rfl d_M_learn_71 ?_
    refine lv_iconst (v := (2 : Int32)) hx hb d_M_learn_74 (by decide) ?_
    refine lv_iload_n hx hb d_M_learn_75 rfl (lv_at hl 1 rfl) ?_
    refine lv_imul hx hb d_M_learn_76 ?_
    refine lv_iload_n hx hb d_M_learn_77 rfl (lv_at hl 2 rfl) ?_
    refine lv_iadd hx hb d_M_learn_78 ?_
    refine lv_iconst (v := (1 : Int32)) hx hb d_M_learn_79 (by decide) ?_
    refine lv_isub hx hb d_M_learn_80 ?_
    refine us_top (show ((((2 : Int32) * (nI t)) + (nI f)) - (1 : Int32)) = (nI (2 * t + f - 1)) from us_rule2 ht h1 (by omega)) ?_
    refine lv_iload hx hb d_M_learn_81 (lv_at hl 4 rfl) ?_
    refine us_iast (j := 2 * t + f - 1) hx hb hK hP hD hS 2 0 rfl rfl (vp_in_nI (by omega) (by omega)) (nI_clamp (by omega)) d_M_learn_83 (fun H locs hP hD hS => ?_)
    have hP : va_P (dC, dI) vwCl [(mm, .inr (8, [.int mp, .int (0 : Int32), .int (nI n), .ref p1, .ref p2, .ref p3, .ref p4, .ref p5, .int (nI un), .ref p6, .ref p7, .ref p8, .int cm, .ref p9, .ref p10, .ref p11, .int ope, .ref p12, .ref p13, .ref p14, .ref p15, .ref p16, .ref p17, .ref p18, .ref p19, .ref p20, .ref p21, .int (nI he), .ref p22])), (p6, .inl (cI, 12, .inl (upd KD (2 * t + f - 1) (nI kd)))), (p7, .inl (cI, 12, .inl (upd KS (2 * t + f - 1) y))), (p8, .inl (cI, 16, .inl SN))] H := hP
    have hD : va_D zA [(mm, .inr (8, [.int mp, .int (0 : Int32), .int (nI n), .ref p1, .ref p2, .ref p3, .ref p4, .ref p5, .int (nI un), .ref p6, .ref p7, .ref p8, .int cm, .ref p9, .ref p10, .ref p11, .int ope, .ref p12, .ref p13, .ref p14, .ref p15, .ref p16, .ref p17, .ref p18, .ref p19, .ref p20, .ref p21, .int (nI he), .ref p22])), (p6, .inl (cI, 12, .inl (upd KD (2 * t + f - 1) (nI kd)))), (p7, .inl (cI, 12, .inl (upd KS (2 * t + f - 1) y))), (p8, .inl (cI, 16, .inl SN))] := hD
    refine lv_aload_n hx hb d_M_learn_84 rfl (lv_at hl 0 rfl) ?_
    refine us_cV (q0 := 0) (As := []) (rest := []) (N2 := 4) (fun u => [(mm, .inr (8, [.int mp, .int (0 : Int32), .int (nI n), .ref p1, .ref p2, .ref p3, .ref p4, .ref p5, .int (nI un), .ref p6, .ref p7, .ref p8, .int cm, .ref p9, .ref p10, .ref p11, .int ope, .ref p12, .ref p13, .ref p14, .ref p15, .ref p16, .ref p17, .ref p18, .ref p19, .ref p20, .ref p21, .int (nI he), .ref p22])), (p6, .inl (cI, 12, .inl (upd KD (2 * t + f - 1) (nI kd)))), (p7, .inl (cI, 12, .inl (upd KS (2 * t + f - 1) y))), (p8, .inl (cI, 16, .inl u))]) ⟨hx, hb, hml, hown, hts⟩ (m_forgetSnapshots zl dC dI cI cL cS cR mm p1 p2 p3 p4 p5 p6 p7 p8 p9 p10 p11 p12 p13 p14 p15 p16 p17 p18 p19 p20 p21 p22 mp (0 : Int32) cm ope n un he SN ) (cwV 0 hts (us_gV uw_3_127 uw_3_129 uw_p_11 uw_1_10 k_M_forgetSnapshots) rfl rfl rfl h_M_forgetSnapshots ⟨by decide, by decide⟩) hK hP hD hS hA [0, 3] [0, 3] [1, 2] rfl (by decide) (fun _ => rfl) [(p6, .inl (cI, 12, .inl (upd KD (2 * t + f - 1) (nI kd)))), (p7, .inl (cI, 12, .inl (upd KS (2 * t + f - 1) y)))] (fun _ => rfl) rfl (fun _ => rfl) (by decide) (by decide) rfl rfl rfl hl.1 rfl (Nat.le_of_ble_eq_true rfl) d_M_learn_85 ⟨by decide, by decide⟩ (fun u H locs w85 hP hD hS => ?_)
    obtain ⟨SN2, rfl⟩ : ∃ z, z = u := ⟨_, rfl⟩
    have hP : va_P (dC, dI) vwCl [(mm, .inr (8, [.int mp, .int (0 : Int32), .int (nI n), .ref p1, .ref p2, .ref p3, .ref p4, .ref p5, .int (nI un), .ref p6, .ref p7, .ref p8, .int cm, .ref p9, .ref p10, .ref p11, .int ope, .ref p12, .ref p13, .ref p14, .ref p15, .ref p16, .ref p17, .ref p18, .ref p19, .ref p20, .ref p21, .int (nI he), .ref p22])), (p6, .inl (cI, 12, .inl (upd KD (2 * t + f - 1) (nI kd)))), (p7, .inl (cI, 12, .inl (upd KS (2 * t + f - 1) y))), (p8, .inl (cI, 16, .inl SN2))] H := hP
    have hD : va_D zA [(mm, .inr (8, [.int mp, .int (0 : Int32), .int (nI n), .ref p1, .ref p2, .ref p3, .ref p4, .ref p5, .int (nI un), .ref p6, .ref p7, .ref p8, .int cm, .ref p9, .ref p10, .ref p11, .int ope, .ref p12, .ref p13, .ref p14, .ref p15, .ref p16, .ref p17, .ref p18, .ref p19, .ref p20, .ref p21, .int (nI he), .ref p22])), (p6, .inl (cI, 12, .inl (upd KD (2 * t + f - 1) (nI kd)))), (p7, .inl (cI, 12, .inl (upd KS (2 * t + f - 1) y))), (p8, .inl (cI, 16, .inl SN2))] := hD
    try dsimp only at w85
    refine W.eq (g2 := F0 zm 88 ls []) rfl ?_
    refine lv_aload_n hx hb d_M_learn_88 rfl (lv_at hl 0 rfl) ?_
    refine lv_iconst (v := (0 : Int32)) hx hb d_M_learn_89 (by decide) ?_
    refine va_put (D := (dC, dI)) (ci := 8) (v := .int (0 : Int32)) (ty := .int) (C := "UpcastStreamsModel") (T := F_M) (N := 29) hx hb hts in_M t_M t_M_ok n_M hown hK hP hD hS 0 rfl rfl 8 (by decide) (hts _ uw_3_139) (fun _ h9 => h9) rfl (by decide +kernel) rfl rfl (Nat.le_of_ble_eq_true rfl) d_M_learn_90 (fun H locs hP hD hS => ?_)
    have hP : va_P (dC, dI) vwCl [(mm, .inr (8, [.int mp, .int (0 : Int32), .int (nI n), .ref p1, .ref p2, .ref p3, .ref p4, .ref p5, .int (0 : Int32), .ref p6, .ref p7, .ref p8, .int cm, .ref p9, .ref p10, .ref p11, .int ope, .ref p12, .ref p13, .ref p14, .ref p15, .ref p16, .ref p17, .ref p18, .ref p19, .ref p20, .ref p21, .int (nI he), .ref p22])), (p6, .inl (cI, 12, .inl (upd KD (2 * t + f - 1) (nI kd)))), (p7, .inl (cI, 12, .inl (upd KS (2 * t + f - 1) y))), (p8, .inl (cI, 16, .inl SN2))] H := hP
    have hD : va_D zA [(mm, .inr (8, [.int mp, .int (0 : Int32), .int (nI n), .ref p1, .ref p2, .ref p3, .ref p4, .ref p5, .int (0 : Int32), .ref p6, .ref p7, .ref p8, .int cm, .ref p9, .ref p10, .ref p11, .int ope, .ref p12, .ref p13, .ref p14, .ref p15, .ref p16, .ref p17, .ref p18, .ref p19, .ref p20, .ref p21, .int (nI he), .ref p22])), (p6, .inl (cI, 12, .inl (upd KD (2 * t + f - 1) (nI kd)))), (p7, .inl (cI, 12, .inl (upd KS (2 * t + f - 1) y))), (p8, .inl (cI, 16, .inl SN2))] := hD
    refine lv_aload_n hx hb d_M_learn_93 rfl (lv_at hl 0 rfl) ?_
    refine lv_iconst (v := (0 : Int32)) hx hb d_M_learn_94 (by decide) ?_
    refine va_put (D := (dC, dI)) (ci := 8) (v := .int (0 : Int32)) (ty := .int) (C := "UpcastStreamsModel") (T := F_M) (N := 29) hx hb hts in_M t_M t_M_ok n_M hown hK hP hD hS 0 rfl rfl 27 (by decide) (hts _ uw_3_158) (fun _ h9 => h9) rfl (by decide +kernel) rfl rfl (Nat.le_of_ble_eq_true rfl) d_M_learn_95 (fun H locs hP hD hS => ?_)
    have hP : va_P (dC, dI) vwCl [(mm, .inr (8, [.int mp, .int (0 : Int32), .int (nI n), .ref p1, .ref p2, .ref p3, .ref p4, .ref p5, .int (0 : Int32), .ref p6, .ref p7, .ref p8, .int cm, .ref p9, .ref p10, .ref p11, .int ope, .ref p12, .ref p13, .ref p14, .ref p15, .ref p16, .ref p17, .ref p18, .ref p19, .ref p20, .ref p21, .int (0 : Int32), .ref p22])), (p6, .inl (cI, 12, .inl (upd KD (2 * t + f - 1) (nI kd)))), (p7, .inl (cI, 12, .inl (upd KS (2 * t + f - 1) y))), (p8, .inl (cI, 16, .inl SN2))] H := hP
    have hD : va_D zA [(mm, .inr (8, [.int mp, .int (0 : Int32), .int (nI n), .ref p1, .ref p2, .ref p3, .ref p4, .ref p5, .int (0 : Int32), .ref p6, .ref p7, .ref p8, .int cm, .ref p9, .ref p10, .ref p11, .int ope, .ref p12, .ref p13, .ref p14, .ref p15, .ref p16, .ref p17, .ref p18, .ref p19, .ref p20, .ref p21, .int (0 : Int32), .ref p22])), (p6, .inl (cI, 12, .inl (upd KD (2 * t + f - 1) (nI kd)))), (p7, .inl (cI, 12, .inl (upd KS (2 * t + f - 1) y))), (p8, .inl (cI, 16, .inl SN2))] := hD
    exact us_vret hQ (by decide) (by decide) hx hb hr hlk hK hS SN2 rfl (w85) hP hD d_M_learn_98
  · refine lv_iload hx hb d_M_learn_33 (lv_at hl 4 rfl) ?_
    refine us_callRS (As := [.int y]) (rest := [.ref mm]) ⟨hx, hb, hml, hown, hts⟩ (m_isType zl dC dI cI cL cS cR y ) ⟨callB_of 1 hts (us_gC k_M_isType) rfl rfl rfl (hts _ uw_1_10) (hts _ uw_3_228) h_M_isType.2 ⟨by decide, by decide⟩, (hts _ uw_3_229)⟩ hK hP hS hA [] rfl rfl hl.1 rfl (Nat.le_of_ble_eq_true rfl) d_M_learn_35 ⟨by decide, by decide⟩ (fun u H locs w35 hP hS => ?_)
    obtain ⟨r35, rfl⟩ : ∃ z, z = u := ⟨_, rfl⟩
    try dsimp only at w35
    refine W.eq (g2 := F0 zm 38 ls [.int r35, .ref mm]) rfl ?_
    refine lv_if_ne (tgt := 45) hx hb d_M_learn_38 (by decide) (fun c8 => ?_) (fun h => absurd (hy ((nI_eq (a := kd) (b := 5) (by omega) (by omega)).mp c30)) (us_d0 w35 h))
    refine lv_iconst (v := (0 : Int32)) hx hb d_M_learn_45 (by decide) ?_
    refine va_put (D := (dC, dI)) (ci := 8) (v := .int (0 : Int32)) (ty := .int) (C := "UpcastStreamsModel") (T := F_M) (N := 29) hx hb hts in_M t_M t_M_ok n_M hown hK hP hD hS 0 rfl rfl 1 (by decide) (hts _ uw_3_132) (fun _ h9 => h9) rfl (by decide +kernel) rfl rfl (Nat.le_of_ble_eq_true rfl) d_M_learn_46 (fun H locs hP hD hS => ?_)
    have hP : va_P (dC, dI) vwCl [(mm, .inr (8, [.int mp, .int (0 : Int32), .int (nI n), .ref p1, .ref p2, .ref p3, .ref p4, .ref p5, .int (nI un), .ref p6, .ref p7, .ref p8, .int cm, .ref p9, .ref p10, .ref p11, .int ope, .ref p12, .ref p13, .ref p14, .ref p15, .ref p16, .ref p17, .ref p18, .ref p19, .ref p20, .ref p21, .int (nI he), .ref p22])), (p6, .inl (cI, 12, .inl KD)), (p7, .inl (cI, 12, .inl KS)), (p8, .inl (cI, 16, .inl SN))] H := hP
    have hD : va_D zA [(mm, .inr (8, [.int mp, .int (0 : Int32), .int (nI n), .ref p1, .ref p2, .ref p3, .ref p4, .ref p5, .int (nI un), .ref p6, .ref p7, .ref p8, .int cm, .ref p9, .ref p10, .ref p11, .int ope, .ref p12, .ref p13, .ref p14, .ref p15, .ref p16, .ref p17, .ref p18, .ref p19, .ref p20, .ref p21, .int (nI he), .ref p22])), (p6, .inl (cI, 12, .inl KD)), (p7, .inl (cI, 12, .inl KS)), (p8, .inl (cI, 16, .inl SN))] := hD
    refine lv_aload_n hx hb d_M_learn_49 rfl (lv_at hl 0 rfl) ?_
    refine va_get (D := (dC, dI)) (ci := 8) (v := .int (0 : Int32)) (C := "UpcastStreamsModel") (T := F_M) (N := 29) hx hb hts in_M hown hK hP 0 rfl rfl 1 (by decide) (hts _ uw_3_132) (fun _ h9 => h9) rfl d_M_learn_50 ?_
    refine lv_if_le (tgt := 57) hx hb d_M_learn_53 (by decide) (fun c9 => ?_) (fun h => absurd h (by decide))
    refine lv_aload_n hx hb d_M_learn_57 rfl (lv_at hl 0 rfl) ?_
    refine va_get (D := (dC, dI)) (ci := 8) (v := .ref p6) (C := "UpcastStreamsModel") (T := F_M) (N := 29) hx hb hts in_M hown hK hP 0 rfl rfl 9 (by decide) (hts _ uw_3_140) (fun _ h9 => h9) rfl d_M_learn_58 ?_
    refine lv_iconst (v := (2 : Int32)) hx hb d_M_learn_61 (by decide) ?_
    refine lv_iload_n hx hb d_M_learn_62 rfl (lv_at hl 1 rfl) ?_
    refine lv_imul hx hb d_M_learn_63 ?_
    refine lv_iload_n hx hb d_M_learn_64 rfl (lv_at hl 2 rfl) ?_
    refine lv_iadd hx hb d_M_learn_65 ?_
    refine lv_iconst (v := (1 : Int32)) hx hb d_M_learn_66 (by decide) ?_
    refine lv_isub hx hb d_M_learn_67 ?_
    refine us_top (show ((((2 : Int32) * (nI t)) + (nI f)) - (1 : Int32)) = (nI (2 * t + f - 1)) from us_rule2 ht h1 (by omega)) ?_
    refine lv_iload_n hx hb d_M_learn_68 rfl (lv_at hl 3 rfl) ?_
    refine us_iast (j := 2 * t + f - 1) hx hb hK hP hD hS 1 0 rfl rfl (vp_in_nI (by omega) (by omega)) (nI_clamp (by omega)) d_M_learn_69 (fun H locs hP hD hS => ?_)
    have hP : va_P (dC, dI) vwCl [(mm, .inr (8, [.int mp, .int (0 : Int32), .int (nI n), .ref p1, .ref p2, .ref p3, .ref p4, .ref p5, .int (nI un), .ref p6, .ref p7, .ref p8, .int cm, .ref p9, .ref p10, .ref p11, .int ope, .ref p12, .ref p13, .ref p14, .ref p15, .ref p16, .ref p17, .ref p18, .ref p19, .ref p20, .ref p21, .int (nI he), .ref p22])), (p6, .inl (cI, 12, .inl (upd KD (2 * t + f - 1) (nI kd)))), (p7, .inl (cI, 12, .inl KS)), (p8, .inl (cI, 16, .inl SN))] H := hP
    have hD : va_D zA [(mm, .inr (8, [.int mp, .int (0 : Int32), .int (nI n), .ref p1, .ref p2, .ref p3, .ref p4, .ref p5, .int (nI un), .ref p6, .ref p7, .ref p8, .int cm, .ref p9, .ref p10, .ref p11, .int ope, .ref p12, .ref p13, .ref p14, .ref p15, .ref p16, .ref p17, .ref p18, .ref p19, .ref p20, .ref p21, .int (nI he), .ref p22])), (p6, .inl (cI, 12, .inl (upd KD (2 * t + f - 1) (nI kd)))), (p7, .inl (cI, 12, .inl KS)), (p8, .inl (cI, 16, .inl SN))] := hD
    refine lv_aload_n hx hb d_M_learn_70 rfl (lv_at hl 0 rfl) ?_
    refine va_get (D := (dC, dI)) (ci := 8) (v := .ref p7) (C := "UpcastStreamsModel") (T := F_M) (N := 29) hx hb hts in_M hown hK hP 0 rfl rfl 10 (by decide) (hts _ uw_3_141) (fun _ h9 => h9) rfl d_M_learn_71 ?_
    refine lv_iconst (v := (2 : Int32)) hx hb d_M_learn_74 (by decide) ?_
    refine lv_iload_n hx hb d_M_learn_75 rfl (lv_at hl 1 rfl) ?_
    refine lv_imul hx hb d_M_learn_76 ?_
    refine lv_iload_n hx hb d_M_learn_77 rfl (lv_at hl 2 rfl) ?_
    refine lv_iadd hx hb d_M_learn_78 ?_
    refine lv_iconst (v := (1 : Int32)) hx hb d_M_learn_79 (by decide) ?_
    refine lv_isub hx hb d_M_learn_80 ?_
    refine us_top (show ((((2 : Int32) * (nI t)) + (nI f)) - (1 : Int32)) = (nI (2 * t + f - 1)) from us_rule2 ht h1 (by omega)) ?_
    refine lv_iload hx hb d_M_learn_81 (lv_at hl 4 rfl) ?_
    refine us_iast (j := 2 * t + f - 1) hx hb hK hP hD hS 2 0 rfl rfl (vp_in_nI (by omega) (by omega)) (nI_clamp (by omega)) d_M_learn_83 (fun H locs hP hD hS => ?_)
    have hP : va_P (dC, dI) vwCl [(mm, .inr (8, [.int mp, .int (0 : Int32), .int (nI n), .ref p1, .ref p2, .ref p3, .ref p4, .ref p5, .int (nI un), .ref p6, .ref p7, .ref p8, .int cm, .ref p9, .ref p10, .ref p11, .int ope, .ref p12, .ref p13, .ref p14, .ref p15, .ref p16, .ref p17, .ref p18, .ref p19, .ref p20, .ref p21, .int (nI he), .ref p22])), (p6, .inl (cI, 12, .inl (upd KD (2 * t + f - 1) (nI kd)))), (p7, .inl (cI, 12, .inl (upd KS (2 * t + f - 1) y))), (p8, .inl (cI, 16, .inl SN))] H := hP
    have hD : va_D zA [(mm, .inr (8, [.int mp, .int (0 : Int32), .int (nI n), .ref p1, .ref p2, .ref p3, .ref p4, .ref p5, .int (nI un), .ref p6, .ref p7, .ref p8, .int cm, .ref p9, .ref p10, .ref p11, .int ope, .ref p12, .ref p13, .ref p14, .ref p15, .ref p16, .ref p17, .ref p18, .ref p19, .ref p20, .ref p21, .int (nI he), .ref p22])), (p6, .inl (cI, 12, .inl (upd KD (2 * t + f - 1) (nI kd)))), (p7, .inl (cI, 12, .inl (upd KS (2 * t + f - 1) y))), (p8, .inl (cI, 16, .inl SN))] := hD
    refine lv_aload_n hx hb d_M_learn_84 rfl (lv_at hl 0 rfl) ?_
    refine us_cV (q0 := 0) (As := []) (rest := []) (N2 := 4) (fun u => [(mm, .inr (8, [.int mp, .int (0 : Int32), .int (nI n), .ref p1, .ref p2, .ref p3, .ref p4, .ref p5, .int (nI un), .ref p6, .ref p7, .ref p8, .int cm, .ref p9, .ref p10, .ref p11, .int ope, .ref p12, .ref p13, .ref p14, .ref p15, .ref p16, .ref p17, .ref p18, .ref p19, .ref p20, .ref p21, .int (nI he), .ref p22])), (p6, .inl (cI, 12, .inl (upd KD (2 * t + f - 1) (nI kd)))), (p7, .inl (cI, 12, .inl (upd KS (2 * t + f - 1) y))), (p8, .inl (cI, 16, .inl u))]) ⟨hx, hb, hml, hown, hts⟩ (m_forgetSnapshots zl dC dI cI cL cS cR mm p1 p2 p3 p4 p5 p6 p7 p8 p9 p10 p11 p12 p13 p14 p15 p16 p17 p18 p19 p20 p21 p22 mp (0 : Int32) cm ope n un he SN ) (cwV 0 hts (us_gV uw_3_127 uw_3_129 uw_p_11 uw_1_10 k_M_forgetSnapshots) rfl rfl rfl h_M_forgetSnapshots ⟨by decide, by decide⟩) hK hP hD hS hA [0, 3] [0, 3] [1, 2] rfl (by decide) (fun _ => rfl) [(p6, .inl (cI, 12, .inl (upd KD (2 * t + f - 1) (nI kd)))), (p7, .inl (cI, 12, .inl (upd KS (2 * t + f - 1) y)))] (fun _ => rfl) rfl (fun _ => rfl) (by decide) (by decide) rfl rfl rfl hl.1 rfl (Nat.le_of_ble_eq_true rfl) d_M_learn_85 ⟨by decide, by decide⟩ (fun u H locs w85 hP hD hS => ?_)
    obtain ⟨SN2, rfl⟩ : ∃ z, z = u := ⟨_, rfl⟩
    have hP : va_P (dC, dI) vwCl [(mm, .inr (8, [.int mp, .int (0 : Int32), .int (nI n), .ref p1, .ref p2, .ref p3, .ref p4, .ref p5, .int (nI un), .ref p6, .ref p7, .ref p8, .int cm, .ref p9, .ref p10, .ref p11, .int ope, .ref p12, .ref p13, .ref p14, .ref p15, .ref p16, .ref p17, .ref p18, .ref p19, .ref p20, .ref p21, .int (nI he), .ref p22])), (p6, .inl (cI, 12, .inl (upd KD (2 * t + f - 1) (nI kd)))), (p7, .inl (cI, 12, .inl (upd KS (2 * t + f - 1) y))), (p8, .inl (cI, 16, .inl SN2))] H := hP
    have hD : va_D zA [(mm, .inr (8, [.int mp, .int (0 : Int32), .int (nI n), .ref p1, .ref p2, .ref p3, .ref p4, .ref p5, .int (nI un), .ref p6, .ref p7, .ref p8, .int cm, .ref p9, .ref p10, .ref p11, .int ope, .ref p12, .ref p13, .ref p14, .ref p15, .ref p16, .ref p17, .ref p18, .ref p19, .ref p20, .ref p21, .int (nI he), .ref p22])), (p6, .inl (cI, 12, .inl (upd KD (2 * t + f - 1) (nI kd)))), (p7, .inl (cI, 12, .inl (upd KS (2 * t + f - 1) y))), (p8, .inl (cI, 16, .inl SN2))] := hD
    try dsimp only at w85
    refine W.eq (g2 := F0 zm 88 ls []) rfl ?_
    refine lv_aload_n hx hb d_M_learn_88 rfl (lv_at hl 0 rfl) ?_
    refine lv_iconst (v := (0 : Int32)) hx hb d_M_learn_89 (by decide) ?_
    refine va_put (D := (dC, dI)) (ci := 8) (v := .int (0 : Int32)) (ty := .int) (C := "UpcastStreamsModel") (T := F_M) (N := 29) hx hb hts in_M t_M t_M_ok n_M hown hK hP hD hS 0 rfl rfl 8 (by decide) (hts _ uw_3_139) (fun _ h9 => h9) rfl (by decide +kernel) rfl rfl (Nat.le_of_ble_eq_true rfl) d_M_learn_90 (fun H locs hP hD hS => ?_)
    have hP : va_P (dC, dI) vwCl [(mm, .inr (8, [.int mp, .int (0 : Int32), .int (nI n), .ref p1, .ref p2, .ref p3, .ref p4, .ref p5, .int (0 : Int32), .ref p6, .ref p7, .ref p8, .int cm, .ref p9, .ref p10, .ref p11, .int ope, .ref p12, .ref p13, .ref p14, .ref p15, .ref p16, .ref p17, .ref p18, .ref p19, .ref p20, .ref p21, .int (nI he), .ref p22])), (p6, .inl (cI, 12, .inl (upd KD (2 * t + f - 1) (nI kd)))), (p7, .inl (cI, 12, .inl (upd KS (2 * t + f - 1) y))), (p8, .inl (cI, 16, .inl SN2))] H := hP
    have hD : va_D zA [(mm, .inr (8, [.int mp, .int (0 : Int32), .int (nI n), .ref p1, .ref p2, .ref p3, .ref p4, .ref p5, .int (0 : Int32), .ref p6, .ref p7, .ref p8, .int cm, .ref p9, .ref p10, .ref p11, .int ope, .ref p12, .ref p13, .ref p14, .ref p15, .ref p16, .ref p17, .ref p18, .ref p19, .ref p20, .ref p21, .int (nI he), .ref p22])), (p6, .inl (cI, 12, .inl (upd KD (2 * t + f - 1) (nI kd)))), (p7, .inl (cI, 12, .inl (upd KS (2 * t + f - 1) y))), (p8, .inl (cI, 16, .inl SN2))] := hD
    refine lv_aload_n hx hb d_M_learn_93 rfl (lv_at hl 0 rfl) ?_
    refine lv_iconst (v := (0 : Int32)) hx hb d_M_learn_94 (by decide) ?_
    refine va_put (D := (dC, dI)) (ci := 8) (v := .int (0 : Int32)) (ty := .int) (C := "UpcastStreamsModel") (T := F_M) (N := 29) hx hb hts in_M t_M t_M_ok n_M hown hK hP hD hS 0 rfl rfl 27 (by decide) (hts _ uw_3_158) (fun _ h9 => h9) rfl (by decide +kernel) rfl rfl (Nat.le_of_ble_eq_true rfl) d_M_learn_95 (fun H locs hP hD hS => ?_)
    have hP : va_P (dC, dI) vwCl [(mm, .inr (8, [.int mp, .int (0 : Int32), .int (nI n), .ref p1, .ref p2, .ref p3, .ref p4, .ref p5, .int (0 : Int32), .ref p6, .ref p7, .ref p8, .int cm, .ref p9, .ref p10, .ref p11, .int ope, .ref p12, .ref p13, .ref p14, .ref p15, .ref p16, .ref p17, .ref p18, .ref p19, .ref p20, .ref p21, .int (0 : Int32), .ref p22])), (p6, .inl (cI, 12, .inl (upd KD (2 * t + f - 1) (nI kd)))), (p7, .inl (cI, 12, .inl (upd KS (2 * t + f - 1) y))), (p8, .inl (cI, 16, .inl SN2))] H := hP
    have hD : va_D zA [(mm, .inr (8, [.int mp, .int (0 : Int32), .int (nI n), .ref p1, .ref p2, .ref p3, .ref p4, .ref p5, .int (0 : Int32), .ref p6, .ref p7, .ref p8, .int cm, .ref p9, .ref p10, .ref p11, .int ope, .ref p12, .ref p13, .ref p14, .ref p15, .ref p16, .ref p17, .ref p18, .ref p19, .ref p20, .ref p21, .int (0 : Int32), .ref p22])), (p6, .inl (cI, 12, .inl (upd KD (2 * t + f - 1) (nI kd)))), (p7, .inl (cI, 12, .inl (upd KS (2 * t + f - 1) y))), (p8, .inl (cI, 16, .inl SN2))] := hD
    exact us_vret hQ (by decide) (by decide) hx hb hr hlk hK hS SN2 rfl (w85) hP hD d_M_learn_98

set_option maxHeartbeats 4000000 in
set_option maxRecDepth 100000 in
theorem m_learn_no (zl : Launch) (dC : Nat → ClassId) (dI : Nat → Nat → Nat) (cI cL cS cR : ClassId) (mm : Nat) (p1 : Nat) (p2 : Nat) (p3 : Nat) (p4 : Nat) (p5 : Nat) (p6 : Nat) (p7 : Nat) (p8 : Nat) (p9 : Nat) (p10 : Nat) (p11 : Nat) (p12 : Nat) (p13 : Nat) (p14 : Nat) (p15 : Nat) (p16 : Nat) (p17 : Nat) (p18 : Nat) (p19 : Nat) (p20 : Nat) (p21 : Nat) (p22 : Nat) (mp : Int32) (co : Int32) (cm : Int32) (ope : Int32) (n : Nat) (un : Nat) (he : Nat) (t : Int32) (f : Int32) (w : Int32) (y : Int32) (hbad : ¬ ((0 ≤ t ∧ t < 6) ∧ 1 ≤ f ∧ f < 3 ∧ 0 ≤ w ∧ w ≤ 6 ∧ (w = 5 → 0 ≤ y ∧ y < 6))) : us_Met (S := Unit) zl y_M_learn w_M_learn ({ frames := 1, cells := 0, slots := 0, locals := 20 }) (dC, dI) vwCl (us_ty cI cL cS cR) [.ref mm, .int t, .int f, .int w, .int y] [(mm, .inr (8, [.int mp, .int co, .int (nI n), .ref p1, .ref p2, .ref p3, .ref p4, .ref p5, .int (nI un), .ref p6, .ref p7, .ref p8, .int cm, .ref p9, .ref p10, .ref p11, .int ope, .ref p12, .ref p13, .ref p14, .ref p15, .ref p16, .ref p17, .ref p18, .ref p19, .ref p20, .ref p21, .int (nI he), .ref p22]))] (fun _ => none) (fun u => True) (fun u => [(mm, .inr (8, [.int mp, .int (1 : Int32), .int (nI n), .ref p1, .ref p2, .ref p3, .ref p4, .ref p5, .int (nI un), .ref p6, .ref p7, .ref p8, .int cm, .ref p9, .ref p10, .ref p11, .int ope, .ref p12, .ref p13, .ref p14, .ref p15, .ref p16, .ref p17, .ref p18, .ref p19, .ref p20, .ref p21, .int (nI he), .ref p22]))]) := by
  refine us_ofW (cc := b_M_learn) (maxL := 5) (ret := none) (by decide) (Nat.le_of_ble_eq_true rfl) ?_
  intro zp ze zs zm args below meth zc zA ls zQ hQ hx hb hr hml hts hown hlk hin hl hK hP hD hS hA
  have hown : zs.vm.findClass "UpcastStreamsModel" = some zm.cls := hown
  have hl : lv_has ls 5 [(0, .ref mm), (1, .int t), (2, .int f), (3, .int w), (4, .int y)] := hl
  obtain ⟨H, hH⟩ : ∃ H, H = zs.heap := ⟨_, rfl⟩
  rw [← hH] at hP ⊢
  have hS : va_S zA zs.heap H [] := hH ▸ hS
  generalize ([] : List Loc) = locs at hS ⊢
  refine lv_aload_n hx hb d_M_learn_0 rfl (lv_at hl 0 rfl) ?_
  refine lv_iload_n hx hb d_M_learn_1 rfl (lv_at hl 1 rfl) ?_
  refine us_callRS (As := [.int t]) (rest := [.ref mm]) ⟨hx, hb, hml, hown, hts⟩ (m_isType zl dC dI cI cL cS cR t ) ⟨callB_of 1 hts (us_gC k_M_isType) rfl rfl rfl (hts _ uw_1_10) (hts _ uw_3_228) h_M_isType.2 ⟨by decide, by decide⟩, (hts _ uw_3_229)⟩ hK hP hS hA [] rfl rfl hl.1 rfl (Nat.le_of_ble_eq_true rfl) d_M_learn_2 ⟨by decide, by decide⟩ (fun u H locs w2 hP hS => ?_)
  obtain ⟨r2, rfl⟩ : ∃ z, z = u := ⟨_, rfl⟩
  try dsimp only at w2
  refine W.eq (g2 := F0 zm 5 ls [.int r2, .ref mm]) rfl ?_
  refine lv_if_eq (tgt := 41) hx hb d_M_learn_5 (by decide) (fun c5 => ?_) (fun c5 => ?_)
  · refine lv_iconst (v := (1 : Int32)) hx hb d_M_learn_41 (by decide) ?_
    refine lv_goto (tgt := 46) hx hb d_M_learn_42 (by decide) ?_
    refine va_put (D := (dC, dI)) (ci := 8) (v := .int (1 : Int32)) (ty := .int) (C := "UpcastStreamsModel") (T := F_M) (N := 29) hx hb hts in_M t_M t_M_ok n_M hown hK hP hD hS 0 rfl rfl 1 (by decide) (hts _ uw_3_132) (fun _ h9 => h9) rfl (by decide +kernel) rfl rfl (Nat.le_of_ble_eq_true rfl) d_M_learn_46 (fun H locs hP hD hS => ?_)
    have hP : va_P (dC, dI) vwCl [(mm, .inr (8, [.int mp, .int (1 : Int32), .int (nI n), .ref p1, .ref p2, .ref p3, .ref p4, .ref p5, .int (nI un), .ref p6, .ref p7, .ref p8, .int cm, .ref p9, .ref p10, .ref p11, .int ope, .ref p12, .ref p13, .ref p14, .ref p15, .ref p16, .ref p17, .ref p18, .ref p19, .ref p20, .ref p21, .int (nI he), .ref p22]))] H := hP
    have hD : va_D zA [(mm, .inr (8, [.int mp, .int (1 : Int32), .int (nI n), .ref p1, .ref p2, .ref p3, .ref p4, .ref p5, .int (nI un), .ref p6, .ref p7, .ref p8, .int cm, .ref p9, .ref p10, .ref p11, .int ope, .ref p12, .ref p13, .ref p14, .ref p15, .ref p16, .ref p17, .ref p18, .ref p19, .ref p20, .ref p21, .int (nI he), .ref p22]))] := hD
    refine lv_aload_n hx hb d_M_learn_49 rfl (lv_at hl 0 rfl) ?_
    refine va_get (D := (dC, dI)) (ci := 8) (v := .int (1 : Int32)) (C := "UpcastStreamsModel") (T := F_M) (N := 29) hx hb hts in_M hown hK hP 0 rfl rfl 1 (by decide) (hts _ uw_3_132) (fun _ h9 => h9) rfl d_M_learn_50 ?_
    refine lv_if_le (tgt := 57) hx hb d_M_learn_53 (by decide) (fun h => absurd h (by decide)) (fun c2 => ?_)
    exact us_vret hQ (by decide) (by decide) hx hb hr hlk hK hS () rfl (by simp) hP hD d_M_learn_56
  · refine lv_iload_n hx hb d_M_learn_8 rfl (lv_at hl 2 rfl) ?_
    refine lv_iconst (v := (1 : Int32)) hx hb d_M_learn_9 (by decide) ?_
    refine lv_icmp_lt (tgt := 41) hx hb d_M_learn_10 (by decide) (fun c10 => ?_) (fun c10 => ?_)
    · refine lv_iconst (v := (1 : Int32)) hx hb d_M_learn_41 (by decide) ?_
      refine lv_goto (tgt := 46) hx hb d_M_learn_42 (by decide) ?_
      refine va_put (D := (dC, dI)) (ci := 8) (v := .int (1 : Int32)) (ty := .int) (C := "UpcastStreamsModel") (T := F_M) (N := 29) hx hb hts in_M t_M t_M_ok n_M hown hK hP hD hS 0 rfl rfl 1 (by decide) (hts _ uw_3_132) (fun _ h9 => h9) rfl (by decide +kernel) rfl rfl (Nat.le_of_ble_eq_true rfl) d_M_learn_46 (fun H locs hP hD hS => ?_)
      have hP : va_P (dC, dI) vwCl [(mm, .inr (8, [.int mp, .int (1 : Int32), .int (nI n), .ref p1, .ref p2, .ref p3, .ref p4, .ref p5, .int (nI un), .ref p6, .ref p7, .ref p8, .int cm, .ref p9, .ref p10, .ref p11, .int ope, .ref p12, .ref p13, .ref p14, .ref p15, .ref p16, .ref p17, .ref p18, .ref p19, .ref p20, .ref p21, .int (nI he), .ref p22]))] H := hP
      have hD : va_D zA [(mm, .inr (8, [.int mp, .int (1 : Int32), .int (nI n), .ref p1, .ref p2, .ref p3, .ref p4, .ref p5, .int (nI un), .ref p6, .ref p7, .ref p8, .int cm, .ref p9, .ref p10, .ref p11, .int ope, .ref p12, .ref p13, .ref p14, .ref p15, .ref p16, .ref p17, .ref p18, .ref p19, .ref p20, .ref p21, .int (nI he), .ref p22]))] := hD
      refine lv_aload_n hx hb d_M_learn_49 rfl (lv_at hl 0 rfl) ?_
      refine va_get (D := (dC, dI)) (ci := 8) (v := .int (1 : Int32)) (C := "UpcastStreamsModel") (T := F_M) (N := 29) hx hb hts in_M hown hK hP 0 rfl rfl 1 (by decide) (hts _ uw_3_132) (fun _ h9 => h9) rfl d_M_learn_50 ?_
      refine lv_if_le (tgt := 57) hx hb d_M_learn_53 (by decide) (fun h => absurd h (by decide)) (fun c4 => ?_)
      exact us_vret hQ (by decide) (by decide) hx hb hr hlk hK hS () rfl (by simp) hP hD d_M_learn_56
    · refine lv_iload_n hx hb d_M_learn_13 rfl (lv_at hl 2 rfl) ?_
      refine lv_iconst (v := (2 : Int32)) hx hb d_M_learn_14 (by decide) ?_
      refine lv_icmp_gt (tgt := 41) hx hb d_M_learn_15 (by decide) (fun c15 => ?_) (fun c15 => ?_)
      · refine lv_iconst (v := (1 : Int32)) hx hb d_M_learn_41 (by decide) ?_
        refine lv_goto (tgt := 46) hx hb d_M_learn_42 (by decide) ?_
        refine va_put (D := (dC, dI)) (ci := 8) (v := .int (1 : Int32)) (ty := .int) (C := "UpcastStreamsModel") (T := F_M) (N := 29) hx hb hts in_M t_M t_M_ok n_M hown hK hP hD hS 0 rfl rfl 1 (by decide) (hts _ uw_3_132) (fun _ h9 => h9) rfl (by decide +kernel) rfl rfl (Nat.le_of_ble_eq_true rfl) d_M_learn_46 (fun H locs hP hD hS => ?_)
        have hP : va_P (dC, dI) vwCl [(mm, .inr (8, [.int mp, .int (1 : Int32), .int (nI n), .ref p1, .ref p2, .ref p3, .ref p4, .ref p5, .int (nI un), .ref p6, .ref p7, .ref p8, .int cm, .ref p9, .ref p10, .ref p11, .int ope, .ref p12, .ref p13, .ref p14, .ref p15, .ref p16, .ref p17, .ref p18, .ref p19, .ref p20, .ref p21, .int (nI he), .ref p22]))] H := hP
        have hD : va_D zA [(mm, .inr (8, [.int mp, .int (1 : Int32), .int (nI n), .ref p1, .ref p2, .ref p3, .ref p4, .ref p5, .int (nI un), .ref p6, .ref p7, .ref p8, .int cm, .ref p9, .ref p10, .ref p11, .int ope, .ref p12, .ref p13, .ref p14, .ref p15, .ref p16, .ref p17, .ref p18, .ref p19, .ref p20, .ref p21, .int (nI he), .ref p22]))] := hD
        refine lv_aload_n hx hb d_M_learn_49 rfl (lv_at hl 0 rfl) ?_
        refine va_get (D := (dC, dI)) (ci := 8) (v := .int (1 : Int32)) (C := "UpcastStreamsModel") (T := F_M) (N := 29) hx hb hts in_M hown hK hP 0 rfl rfl 1 (by decide) (hts _ uw_3_132) (fun _ h9 => h9) rfl d_M_learn_50 ?_
        refine lv_if_le (tgt := 57) hx hb d_M_learn_53 (by decide) (fun h => absurd h (by decide)) (fun c6 => ?_)
        exact us_vret hQ (by decide) (by decide) hx hb hr hlk hK hS () rfl (by simp) hP hD d_M_learn_56
      · refine lv_iload_n hx hb d_M_learn_18 rfl (lv_at hl 3 rfl) ?_
        refine lv_if_lt (tgt := 41) hx hb d_M_learn_19 (by decide) (fun c19 => ?_) (fun c19 => ?_)
        · refine lv_iconst (v := (1 : Int32)) hx hb d_M_learn_41 (by decide) ?_
          refine lv_goto (tgt := 46) hx hb d_M_learn_42 (by decide) ?_
          refine va_put (D := (dC, dI)) (ci := 8) (v := .int (1 : Int32)) (ty := .int) (C := "UpcastStreamsModel") (T := F_M) (N := 29) hx hb hts in_M t_M t_M_ok n_M hown hK hP hD hS 0 rfl rfl 1 (by decide) (hts _ uw_3_132) (fun _ h9 => h9) rfl (by decide +kernel) rfl rfl (Nat.le_of_ble_eq_true rfl) d_M_learn_46 (fun H locs hP hD hS => ?_)
          have hP : va_P (dC, dI) vwCl [(mm, .inr (8, [.int mp, .int (1 : Int32), .int (nI n), .ref p1, .ref p2, .ref p3, .ref p4, .ref p5, .int (nI un), .ref p6, .ref p7, .ref p8, .int cm, .ref p9, .ref p10, .ref p11, .int ope, .ref p12, .ref p13, .ref p14, .ref p15, .ref p16, .ref p17, .ref p18, .ref p19, .ref p20, .ref p21, .int (nI he), .ref p22]))] H := hP
          have hD : va_D zA [(mm, .inr (8, [.int mp, .int (1 : Int32), .int (nI n), .ref p1, .ref p2, .ref p3, .ref p4, .ref p5, .int (nI un), .ref p6, .ref p7, .ref p8, .int cm, .ref p9, .ref p10, .ref p11, .int ope, .ref p12, .ref p13, .ref p14, .ref p15, .ref p16, .ref p17, .ref p18, .ref p19, .ref p20, .ref p21, .int (nI he), .ref p22]))] := hD
          refine lv_aload_n hx hb d_M_learn_49 rfl (lv_at hl 0 rfl) ?_
          refine va_get (D := (dC, dI)) (ci := 8) (v := .int (1 : Int32)) (C := "UpcastStreamsModel") (T := F_M) (N := 29) hx hb hts in_M hown hK hP 0 rfl rfl 1 (by decide) (hts _ uw_3_132) (fun _ h9 => h9) rfl d_M_learn_50 ?_
          refine lv_if_le (tgt := 57) hx hb d_M_learn_53 (by decide) (fun h => absurd h (by decide)) (fun c8 => ?_)
          exact us_vret hQ (by decide) (by decide) hx hb hr hlk hK hS () rfl (by simp) hP hD d_M_learn_56
        · refine lv_iload_n hx hb d_M_learn_22 rfl (lv_at hl 3 rfl) ?_
          refine lv_bipush (v := (6 : Int32)) hx hb d_M_learn_23 (by decide) ?_
          refine lv_icmp_gt (tgt := 41) hx hb d_M_learn_25 (by decide) (fun c25 => ?_) (fun c25 => ?_)
          · refine lv_iconst (v := (1 : Int32)) hx hb d_M_learn_41 (by decide) ?_
            refine lv_goto (tgt := 46) hx hb d_M_learn_42 (by decide) ?_
            refine va_put (D := (dC, dI)) (ci := 8) (v := .int (1 : Int32)) (ty := .int) (C := "UpcastStreamsModel") (T := F_M) (N := 29) hx hb hts in_M t_M t_M_ok n_M hown hK hP hD hS 0 rfl rfl 1 (by decide) (hts _ uw_3_132) (fun _ h9 => h9) rfl (by decide +kernel) rfl rfl (Nat.le_of_ble_eq_true rfl) d_M_learn_46 (fun H locs hP hD hS => ?_)
            have hP : va_P (dC, dI) vwCl [(mm, .inr (8, [.int mp, .int (1 : Int32), .int (nI n), .ref p1, .ref p2, .ref p3, .ref p4, .ref p5, .int (nI un), .ref p6, .ref p7, .ref p8, .int cm, .ref p9, .ref p10, .ref p11, .int ope, .ref p12, .ref p13, .ref p14, .ref p15, .ref p16, .ref p17, .ref p18, .ref p19, .ref p20, .ref p21, .int (nI he), .ref p22]))] H := hP
            have hD : va_D zA [(mm, .inr (8, [.int mp, .int (1 : Int32), .int (nI n), .ref p1, .ref p2, .ref p3, .ref p4, .ref p5, .int (nI un), .ref p6, .ref p7, .ref p8, .int cm, .ref p9, .ref p10, .ref p11, .int ope, .ref p12, .ref p13, .ref p14, .ref p15, .ref p16, .ref p17, .ref p18, .ref p19, .ref p20, .ref p21, .int (nI he), .ref p22]))] := hD
            refine lv_aload_n hx hb d_M_learn_49 rfl (lv_at hl 0 rfl) ?_
            refine va_get (D := (dC, dI)) (ci := 8) (v := .int (1 : Int32)) (C := "UpcastStreamsModel") (T := F_M) (N := 29) hx hb hts in_M hown hK hP 0 rfl rfl 1 (by decide) (hts _ uw_3_132) (fun _ h9 => h9) rfl d_M_learn_50 ?_
            refine lv_if_le (tgt := 57) hx hb d_M_learn_53 (by decide) (fun h => absurd h (by decide)) (fun c10 => ?_)
            exact us_vret hQ (by decide) (by decide) hx hb hr hlk hK hS () rfl (by simp) hP hD d_M_learn_56
          · refine lv_iload_n hx hb d_M_learn_28 rfl (lv_at hl 3 rfl) ?_
            refine lv_iconst (v := (5 : Int32)) hx hb d_M_learn_29 (by decide) ?_
            refine lv_icmp_ne (tgt := 45) hx hb d_M_learn_30 (by decide) (fun h => absurd ⟨us_d1 w2 c5, Int32.not_lt.mp c10, us_le_lt3 (Int32.not_lt.mp c15), Int32.not_lt.mp c19, Int32.not_lt.mp c25, fun z => absurd z h⟩ hbad) (fun c11 => ?_)
            refine lv_iload hx hb d_M_learn_33 (lv_at hl 4 rfl) ?_
            refine us_callRS (As := [.int y]) (rest := [.ref mm]) ⟨hx, hb, hml, hown, hts⟩ (m_isType zl dC dI cI cL cS cR y ) ⟨callB_of 1 hts (us_gC k_M_isType) rfl rfl rfl (hts _ uw_1_10) (hts _ uw_3_228) h_M_isType.2 ⟨by decide, by decide⟩, (hts _ uw_3_229)⟩ hK hP hS hA [] rfl rfl hl.1 rfl (Nat.le_of_ble_eq_true rfl) d_M_learn_35 ⟨by decide, by decide⟩ (fun u H locs w35 hP hS => ?_)
            obtain ⟨r35, rfl⟩ : ∃ z, z = u := ⟨_, rfl⟩
            try dsimp only at w35
            refine W.eq (g2 := F0 zm 38 ls [.int r35, .ref mm]) rfl ?_
            refine lv_if_ne (tgt := 45) hx hb d_M_learn_38 (by decide) (fun h => absurd ⟨us_d1 w2 c5, Int32.not_lt.mp c10, us_le_lt3 (Int32.not_lt.mp c15), Int32.not_lt.mp c19, Int32.not_lt.mp c25, fun _ => us_d1 w35 h⟩ hbad) (fun c12 => ?_)
            refine lv_iconst (v := (1 : Int32)) hx hb d_M_learn_41 (by decide) ?_
            refine lv_goto (tgt := 46) hx hb d_M_learn_42 (by decide) ?_
            refine va_put (D := (dC, dI)) (ci := 8) (v := .int (1 : Int32)) (ty := .int) (C := "UpcastStreamsModel") (T := F_M) (N := 29) hx hb hts in_M t_M t_M_ok n_M hown hK hP hD hS 0 rfl rfl 1 (by decide) (hts _ uw_3_132) (fun _ h9 => h9) rfl (by decide +kernel) rfl rfl (Nat.le_of_ble_eq_true rfl) d_M_learn_46 (fun H locs hP hD hS => ?_)
            have hP : va_P (dC, dI) vwCl [(mm, .inr (8, [.int mp, .int (1 : Int32), .int (nI n), .ref p1, .ref p2, .ref p3, .ref p4, .ref p5, .int (nI un), .ref p6, .ref p7, .ref p8, .int cm, .ref p9, .ref p10, .ref p11, .int ope, .ref p12, .ref p13, .ref p14, .ref p15, .ref p16, .ref p17, .ref p18, .ref p19, .ref p20, .ref p21, .int (nI he), .ref p22]))] H := hP
            have hD : va_D zA [(mm, .inr (8, [.int mp, .int (1 : Int32), .int (nI n), .ref p1, .ref p2, .ref p3, .ref p4, .ref p5, .int (nI un), .ref p6, .ref p7, .ref p8, .int cm, .ref p9, .ref p10, .ref p11, .int ope, .ref p12, .ref p13, .ref p14, .ref p15, .ref p16, .ref p17, .ref p18, .ref p19, .ref p20, .ref p21, .int (nI he), .ref p22]))] := hD
            refine lv_aload_n hx hb d_M_learn_49 rfl (lv_at hl 0 rfl) ?_
            refine va_get (D := (dC, dI)) (ci := 8) (v := .int (1 : Int32)) (C := "UpcastStreamsModel") (T := F_M) (N := 29) hx hb hts in_M hown hK hP 0 rfl rfl 1 (by decide) (hts _ uw_3_132) (fun _ h9 => h9) rfl d_M_learn_50 ?_
            refine lv_if_le (tgt := 57) hx hb d_M_learn_53 (by decide) (fun h => absurd h (by decide)) (fun c13 => ?_)
            exact us_vret hQ (by decide) (by decide) hx hb hr hlk hK hS () rfl (by simp) hP hD d_M_learn_56

set_option maxHeartbeats 4000000 in
set_option maxRecDepth 100000 in
theorem m_comes (zl : Launch) (dC : Nat → ClassId) (dI : Nat → Nat → Nat) (cI cL cS cR : ClassId) (mm : Nat) (p1 : Nat) (p2 : Nat) (p3 : Nat) (p4 : Nat) (p5 : Nat) (p6 : Nat) (p7 : Nat) (p8 : Nat) (p9 : Nat) (p10 : Nat) (p11 : Nat) (p12 : Nat) (p13 : Nat) (p14 : Nat) (p15 : Nat) (p16 : Nat) (p17 : Nat) (p18 : Nat) (p19 : Nat) (p20 : Nat) (p21 : Nat) (p22 : Nat) (mp : Int32) (co : Int32) (cm : Int32) (ope : Int32) (n : Nat) (un : Nat) (he : Nat) (MT : Nat → Int32) (MF : Nat → Int32) (MU : Nat → Int32) (MV : Nat → Int32) (KD : Nat → Int32) (KS : Nat → Int32) (C1 : Nat → Int32) (C2 : Nat → Int32) (C3 : Nat → Int32) (O1 : Nat → Int32) (O2 : Nat → Int32) (O3 : Nat → Int32) (O4 : Nat → Int32) (MS : Nat → Int32) (es : List us_Ev) (st : Nat → Nat) (i : Nat) (hL : us_ml MS MT MF MU MV n es st) (hR : us_rok KD KS) (hi : i < n) : us_Met (S := (Nat → Int32) × (Nat → Int32) × (Nat → Int32) × (Nat → Int32) × (Nat → Int32) × (Nat → Int32) × (Nat → Int32) × Nat × Nat) zl y_M_comes w_M_comes ({ frames := 4, cells := 0, slots := 0, locals := 96 }) (dC, dI) vwCl (us_ty cI cL cS cR) [.ref mm, .int (nI i)] [(mm, .inr (8, [.int mp, .int co, .int (nI n), .ref p1, .ref p2, .ref p3, .ref p4, .ref p5, .int (nI un), .ref p6, .ref p7, .ref p8, .int cm, .ref p9, .ref p10, .ref p11, .int ope, .ref p12, .ref p13, .ref p14, .ref p15, .ref p16, .ref p17, .ref p18, .ref p19, .ref p20, .ref p21, .int (nI he), .ref p22])), (p2, .inl (cI, 68, .inl MT)), (p3, .inl (cI, 68, .inl MF)), (p4, .inl (cI, 68, .inl MU)), (p5, .inl (cI, 68, .inl MV)), (p6, .inl (cI, 12, .inl KD)), (p7, .inl (cI, 12, .inl KS)), (p9, .inl (cI, 4, .inl C1)), (p10, .inl (cI, 4, .inl C2)), (p11, .inl (cI, 4, .inl C3)), (p12, .inl (cI, 8, .inl O1)), (p13, .inl (cI, 8, .inl O2)), (p14, .inl (cI, 8, .inl O3)), (p15, .inl (cI, 8, .inl O4))] (fun u => some (.int (nI ((us_up KD KS (us_at es i)).length)))) (fun u => True) (fun u => [(mm, .inr (8, [.int mp, .int (0 : Int32), .int (nI n), .ref p1, .ref p2, .ref p3, .ref p4, .ref p5, .int (nI un), .ref p6, .ref p7, .ref p8, .int (nI u.2.2.2.2.2.2.2.1), .ref p9, .ref p10, .ref p11, .int (nI u.2.2.2.2.2.2.2.2), .ref p12, .ref p13, .ref p14, .ref p15, .ref p16, .ref p17, .ref p18, .ref p19, .ref p20, .ref p21, .int (nI he), .ref p22])), (p2, .inl (cI, 68, .inl MT)), (p3, .inl (cI, 68, .inl MF)), (p4, .inl (cI, 68, .inl MU)), (p5, .inl (cI, 68, .inl MV)), (p6, .inl (cI, 12, .inl KD)), (p7, .inl (cI, 12, .inl KS)), (p9, .inl (cI, 4, .inl u.1)), (p10, .inl (cI, 4, .inl u.2.1)), (p11, .inl (cI, 4, .inl u.2.2.1)), (p12, .inl (cI, 8, .inl u.2.2.2.1)), (p13, .inl (cI, 8, .inl u.2.2.2.2.1)), (p14, .inl (cI, 8, .inl u.2.2.2.2.2.1)), (p15, .inl (cI, 8, .inl u.2.2.2.2.2.2.1))]) := by
  refine us_ofW (cc := b_M_comes) (maxL := 2) (ret := (some .int)) (by decide) (Nat.le_of_ble_eq_true rfl) ?_
  intro zp ze zs zm args below meth zc zA ls zQ hQ hx hb hr hml hts hown hlk hin hl hK hP hD hS hA
  have hown : zs.vm.findClass "UpcastStreamsModel" = some zm.cls := hown
  have hl : lv_has ls 2 [(0, .ref mm), (1, .int (nI i))] := hl
  obtain ⟨H, hH⟩ : ∃ H, H = zs.heap := ⟨_, rfl⟩
  rw [← hH] at hP ⊢
  have hS : va_S zA zs.heap H [] := hH ▸ hS
  generalize ([] : List Loc) = locs at hS ⊢
  have hn64 := hL.2.2.1
  have hne := hL.2.1
  obtain ⟨e1, hge⟩ : ∃ e1, es[i]? = some e1 := ⟨es[i]'(by omega), List.getElem?_eq_getElem (by omega)⟩
  obtain ⟨g1, g2, g3, g4⟩ := hL.1 i e1 hge
  obtain ⟨ht, hf1, hf3⟩ := hL.2.2.2.2 e1 (List.mem_of_getElem? hge)
  have hat : us_at es i = e1 := us_at_of hge
  refine lv_aload_n hx hb d_M_comes_0 rfl (lv_at hl 0 rfl) ?_
  refine lv_iload_n hx hb d_M_comes_1 rfl (lv_at hl 1 rfl) ?_
  refine lv_if_lt (tgt := 13) hx hb d_M_comes_2 (by decide) (fun h => absurd h (nI_pos (by omega))) (fun c1 => ?_)
  refine lv_iload_n hx hb d_M_comes_5 rfl (lv_at hl 1 rfl) ?_
  refine lv_aload_n hx hb d_M_comes_6 rfl (lv_at hl 0 rfl) ?_
  refine va_get (D := (dC, dI)) (ci := 8) (v := .int (nI n)) (C := "UpcastStreamsModel") (T := F_M) (N := 29) hx hb hts in_M hown hK hP 0 rfl rfl 2 (by decide) (hts _ uw_3_133) (fun _ h9 => h9) rfl d_M_comes_7 ?_
  refine lv_icmp_lt (tgt := 17) hx hb d_M_comes_10 (by decide) (fun c2 => ?_) (fun h => absurd (nI_lt hi (by omega)) h)
  refine lv_iconst (v := (0 : Int32)) hx hb d_M_comes_17 (by decide) ?_
  refine va_put (D := (dC, dI)) (ci := 8) (v := .int (0 : Int32)) (ty := .int) (C := "UpcastStreamsModel") (T := F_M) (N := 29) hx hb hts in_M t_M t_M_ok n_M hown hK hP hD hS 0 rfl rfl 1 (by decide) (hts _ uw_3_132) (fun _ h9 => h9) rfl (by decide +kernel) rfl rfl (Nat.le_of_ble_eq_true rfl) d_M_comes_18 (fun H locs hP hD hS => ?_)
  have hP : va_P (dC, dI) vwCl [(mm, .inr (8, [.int mp, .int (0 : Int32), .int (nI n), .ref p1, .ref p2, .ref p3, .ref p4, .ref p5, .int (nI un), .ref p6, .ref p7, .ref p8, .int cm, .ref p9, .ref p10, .ref p11, .int ope, .ref p12, .ref p13, .ref p14, .ref p15, .ref p16, .ref p17, .ref p18, .ref p19, .ref p20, .ref p21, .int (nI he), .ref p22])), (p2, .inl (cI, 68, .inl MT)), (p3, .inl (cI, 68, .inl MF)), (p4, .inl (cI, 68, .inl MU)), (p5, .inl (cI, 68, .inl MV)), (p6, .inl (cI, 12, .inl KD)), (p7, .inl (cI, 12, .inl KS)), (p9, .inl (cI, 4, .inl C1)), (p10, .inl (cI, 4, .inl C2)), (p11, .inl (cI, 4, .inl C3)), (p12, .inl (cI, 8, .inl O1)), (p13, .inl (cI, 8, .inl O2)), (p14, .inl (cI, 8, .inl O3)), (p15, .inl (cI, 8, .inl O4))] H := hP
  have hD : va_D zA [(mm, .inr (8, [.int mp, .int (0 : Int32), .int (nI n), .ref p1, .ref p2, .ref p3, .ref p4, .ref p5, .int (nI un), .ref p6, .ref p7, .ref p8, .int cm, .ref p9, .ref p10, .ref p11, .int ope, .ref p12, .ref p13, .ref p14, .ref p15, .ref p16, .ref p17, .ref p18, .ref p19, .ref p20, .ref p21, .int (nI he), .ref p22])), (p2, .inl (cI, 68, .inl MT)), (p3, .inl (cI, 68, .inl MF)), (p4, .inl (cI, 68, .inl MU)), (p5, .inl (cI, 68, .inl MV)), (p6, .inl (cI, 12, .inl KD)), (p7, .inl (cI, 12, .inl KS)), (p9, .inl (cI, 4, .inl C1)), (p10, .inl (cI, 4, .inl C2)), (p11, .inl (cI, 4, .inl C3)), (p12, .inl (cI, 8, .inl O1)), (p13, .inl (cI, 8, .inl O2)), (p14, .inl (cI, 8, .inl O3)), (p15, .inl (cI, 8, .inl O4))] := hD
  refine lv_aload_n hx hb d_M_comes_21 rfl (lv_at hl 0 rfl) ?_
  refine va_get (D := (dC, dI)) (ci := 8) (v := .int (0 : Int32)) (C := "UpcastStreamsModel") (T := F_M) (N := 29) hx hb hts in_M hown hK hP 0 rfl rfl 1 (by decide) (hts _ uw_3_132) (fun _ h9 => h9) rfl d_M_comes_22 ?_
  refine lv_if_le (tgt := 30) hx hb d_M_comes_25 (by decide) (fun c3 => ?_) (fun h => absurd h (by decide))
  refine lv_aload_n hx hb d_M_comes_30 rfl (lv_at hl 0 rfl) ?_
  refine lv_iload_n hx hb d_M_comes_31 rfl (lv_at hl 1 rfl) ?_
  refine us_cV (q0 := 0) (As := [.int (nI i)]) (rest := []) (N2 := 14) (fun u => [(mm, .inr (8, [.int mp, .int (0 : Int32), .int (nI n), .ref p1, .ref p2, .ref p3, .ref p4, .ref p5, .int (nI un), .ref p6, .ref p7, .ref p8, .int (nI u.2.2.2.2.2.2.2.1), .ref p9, .ref p10, .ref p11, .int (nI u.2.2.2.2.2.2.2.2), .ref p12, .ref p13, .ref p14, .ref p15, .ref p16, .ref p17, .ref p18, .ref p19, .ref p20, .ref p21, .int (nI he), .ref p22])), (p2, .inl (cI, 68, .inl MT)), (p3, .inl (cI, 68, .inl MF)), (p4, .inl (cI, 68, .inl MU)), (p5, .inl (cI, 68, .inl MV)), (p6, .inl (cI, 12, .inl KD)), (p7, .inl (cI, 12, .inl KS)), (p9, .inl (cI, 4, .inl u.1)), (p10, .inl (cI, 4, .inl u.2.1)), (p11, .inl (cI, 4, .inl u.2.2.1)), (p12, .inl (cI, 8, .inl u.2.2.2.1)), (p13, .inl (cI, 8, .inl u.2.2.2.2.1)), (p14, .inl (cI, 8, .inl u.2.2.2.2.2.1)), (p15, .inl (cI, 8, .inl u.2.2.2.2.2.2.1))]) ⟨hx, hb, hml, hown, hts⟩ (m_bringUp zl dC dI cI cL cS cR mm p1 p2 p3 p4 p5 p6 p7 p8 p9 p10 p11 p12 p13 p14 p15 p16 p17 p18 p19 p20 p21 p22 mp (0 : Int32) cm ope n un he MT MF MU MV KD KS C1 C2 C3 O1 O2 O3 O4 i e1 g1 g2 g3 g4 ht hf1 hf3 hR (by omega)) (cwV 1 hts (us_gV uw_4_14 uw_4_16 uw_p_15 uw_1_10 k_M_bringUp) rfl rfl rfl h_M_bringUp ⟨by decide, by decide⟩) hK hP hD hS hA [0, 1, 2, 3, 4, 5, 6, 7, 8, 9, 10, 11, 12, 13] [0, 1, 2, 3, 4, 5, 6, 7, 8, 9, 10, 11, 12, 13] [] rfl (by decide) (fun _ => rfl) [] (fun _ => rfl) rfl (fun _ => rfl) (by decide) (by decide) rfl rfl rfl hl.1 rfl (Nat.le_of_ble_eq_true rfl) d_M_comes_32 ⟨by decide, by decide⟩ (fun u H locs w32 hP hD hS => ?_)
  obtain ⟨D1, D2, D3, Q1, Q2, Q3, Q4, cn, oo⟩ := u
  have hP : va_P (dC, dI) vwCl [(mm, .inr (8, [.int mp, .int (0 : Int32), .int (nI n), .ref p1, .ref p2, .ref p3, .ref p4, .ref p5, .int (nI un), .ref p6, .ref p7, .ref p8, .int (nI cn), .ref p9, .ref p10, .ref p11, .int (nI oo), .ref p12, .ref p13, .ref p14, .ref p15, .ref p16, .ref p17, .ref p18, .ref p19, .ref p20, .ref p21, .int (nI he), .ref p22])), (p2, .inl (cI, 68, .inl MT)), (p3, .inl (cI, 68, .inl MF)), (p4, .inl (cI, 68, .inl MU)), (p5, .inl (cI, 68, .inl MV)), (p6, .inl (cI, 12, .inl KD)), (p7, .inl (cI, 12, .inl KS)), (p9, .inl (cI, 4, .inl D1)), (p10, .inl (cI, 4, .inl D2)), (p11, .inl (cI, 4, .inl D3)), (p12, .inl (cI, 8, .inl Q1)), (p13, .inl (cI, 8, .inl Q2)), (p14, .inl (cI, 8, .inl Q3)), (p15, .inl (cI, 8, .inl Q4))] H := hP
  have hD : va_D zA [(mm, .inr (8, [.int mp, .int (0 : Int32), .int (nI n), .ref p1, .ref p2, .ref p3, .ref p4, .ref p5, .int (nI un), .ref p6, .ref p7, .ref p8, .int (nI cn), .ref p9, .ref p10, .ref p11, .int (nI oo), .ref p12, .ref p13, .ref p14, .ref p15, .ref p16, .ref p17, .ref p18, .ref p19, .ref p20, .ref p21, .int (nI he), .ref p22])), (p2, .inl (cI, 68, .inl MT)), (p3, .inl (cI, 68, .inl MF)), (p4, .inl (cI, 68, .inl MU)), (p5, .inl (cI, 68, .inl MV)), (p6, .inl (cI, 12, .inl KD)), (p7, .inl (cI, 12, .inl KS)), (p9, .inl (cI, 4, .inl D1)), (p10, .inl (cI, 4, .inl D2)), (p11, .inl (cI, 4, .inl D3)), (p12, .inl (cI, 8, .inl Q1)), (p13, .inl (cI, 8, .inl Q2)), (p14, .inl (cI, 8, .inl Q3)), (p15, .inl (cI, 8, .inl Q4))] := hD
  try dsimp only at w32
  refine W.eq (g2 := F0 zm 35 ls []) rfl ?_
  refine lv_aload_n hx hb d_M_comes_35 rfl (lv_at hl 0 rfl) ?_
  refine va_get (D := (dC, dI)) (ci := 8) (v := .int (nI cn)) (C := "UpcastStreamsModel") (T := F_M) (N := 29) hx hb hts in_M hown hK hP 0 rfl rfl 12 (by decide) (hts _ uw_3_143) (fun _ h9 => h9) rfl d_M_comes_36 ?_
  refine us_top (show (nI cn) = (nI ((us_up KD KS (us_at es i)).length)) from by rw [hat, ← w32.2]) ?_
  exact us_iret hQ (by decide) (by decide) hx hb hr hlk hK hS (D1, D2, D3, Q1, Q2, Q3, Q4, cn, oo) rfl (trivial) hP hD d_M_comes_39

set_option maxHeartbeats 4000000 in
set_option maxRecDepth 100000 in
theorem m_comes_no (zl : Launch) (dC : Nat → ClassId) (dI : Nat → Nat → Nat) (cI cL cS cR : ClassId) (mm : Nat) (p1 : Nat) (p2 : Nat) (p3 : Nat) (p4 : Nat) (p5 : Nat) (p6 : Nat) (p7 : Nat) (p8 : Nat) (p9 : Nat) (p10 : Nat) (p11 : Nat) (p12 : Nat) (p13 : Nat) (p14 : Nat) (p15 : Nat) (p16 : Nat) (p17 : Nat) (p18 : Nat) (p19 : Nat) (p20 : Nat) (p21 : Nat) (p22 : Nat) (mp : Int32) (co : Int32) (cm : Int32) (ope : Int32) (n : Nat) (un : Nat) (he : Nat) (y : Int32) (hbad : ¬ (0 ≤ y ∧ y < nI n)) : us_Met (S := Unit) zl y_M_comes w_M_comes ({ frames := 0, cells := 0, slots := 0, locals := 0 }) (dC, dI) vwCl (us_ty cI cL cS cR) [.ref mm, .int y] [(mm, .inr (8, [.int mp, .int co, .int (nI n), .ref p1, .ref p2, .ref p3, .ref p4, .ref p5, .int (nI un), .ref p6, .ref p7, .ref p8, .int cm, .ref p9, .ref p10, .ref p11, .int ope, .ref p12, .ref p13, .ref p14, .ref p15, .ref p16, .ref p17, .ref p18, .ref p19, .ref p20, .ref p21, .int (nI he), .ref p22]))] (fun u => some (.int (0 : Int32))) (fun u => True) (fun u => [(mm, .inr (8, [.int mp, .int (1 : Int32), .int (nI n), .ref p1, .ref p2, .ref p3, .ref p4, .ref p5, .int (nI un), .ref p6, .ref p7, .ref p8, .int cm, .ref p9, .ref p10, .ref p11, .int ope, .ref p12, .ref p13, .ref p14, .ref p15, .ref p16, .ref p17, .ref p18, .ref p19, .ref p20, .ref p21, .int (nI he), .ref p22]))]) := by
  refine us_ofW (cc := b_M_comes) (maxL := 2) (ret := (some .int)) (by decide) (Nat.le_of_ble_eq_true rfl) ?_
  intro zp ze zs zm args below meth zc zA ls zQ hQ hx hb hr hml hts hown hlk hin hl hK hP hD hS hA
  have hown : zs.vm.findClass "UpcastStreamsModel" = some zm.cls := hown
  have hl : lv_has ls 2 [(0, .ref mm), (1, .int y)] := hl
  obtain ⟨H, hH⟩ : ∃ H, H = zs.heap := ⟨_, rfl⟩
  rw [← hH] at hP ⊢
  have hS : va_S zA zs.heap H [] := hH ▸ hS
  generalize ([] : List Loc) = locs at hS ⊢
  refine lv_aload_n hx hb d_M_comes_0 rfl (lv_at hl 0 rfl) ?_
  refine lv_iload_n hx hb d_M_comes_1 rfl (lv_at hl 1 rfl) ?_
  refine lv_if_lt (tgt := 13) hx hb d_M_comes_2 (by decide) (fun c2 => ?_) (fun c2 => ?_)
  · refine lv_iconst (v := (1 : Int32)) hx hb d_M_comes_13 (by decide) ?_
    refine lv_goto (tgt := 18) hx hb d_M_comes_14 (by decide) ?_
    refine va_put (D := (dC, dI)) (ci := 8) (v := .int (1 : Int32)) (ty := .int) (C := "UpcastStreamsModel") (T := F_M) (N := 29) hx hb hts in_M t_M t_M_ok n_M hown hK hP hD hS 0 rfl rfl 1 (by decide) (hts _ uw_3_132) (fun _ h9 => h9) rfl (by decide +kernel) rfl rfl (Nat.le_of_ble_eq_true rfl) d_M_comes_18 (fun H locs hP hD hS => ?_)
    have hP : va_P (dC, dI) vwCl [(mm, .inr (8, [.int mp, .int (1 : Int32), .int (nI n), .ref p1, .ref p2, .ref p3, .ref p4, .ref p5, .int (nI un), .ref p6, .ref p7, .ref p8, .int cm, .ref p9, .ref p10, .ref p11, .int ope, .ref p12, .ref p13, .ref p14, .ref p15, .ref p16, .ref p17, .ref p18, .ref p19, .ref p20, .ref p21, .int (nI he), .ref p22]))] H := hP
    have hD : va_D zA [(mm, .inr (8, [.int mp, .int (1 : Int32), .int (nI n), .ref p1, .ref p2, .ref p3, .ref p4, .ref p5, .int (nI un), .ref p6, .ref p7, .ref p8, .int cm, .ref p9, .ref p10, .ref p11, .int ope, .ref p12, .ref p13, .ref p14, .ref p15, .ref p16, .ref p17, .ref p18, .ref p19, .ref p20, .ref p21, .int (nI he), .ref p22]))] := hD
    refine lv_aload_n hx hb d_M_comes_21 rfl (lv_at hl 0 rfl) ?_
    refine va_get (D := (dC, dI)) (ci := 8) (v := .int (1 : Int32)) (C := "UpcastStreamsModel") (T := F_M) (N := 29) hx hb hts in_M hown hK hP 0 rfl rfl 1 (by decide) (hts _ uw_3_132) (fun _ h9 => h9) rfl d_M_comes_22 ?_
    refine lv_if_le (tgt := 30) hx hb d_M_comes_25 (by decide) (fun h => absurd h (by decide)) (fun c2 => ?_)
    refine lv_iconst (v := (0 : Int32)) hx hb d_M_comes_28 (by decide) ?_
    exact us_iret hQ (by decide) (by decide) hx hb hr hlk hK hS () rfl (by simp) hP hD d_M_comes_29
  · refine lv_iload_n hx hb d_M_comes_5 rfl (lv_at hl 1 rfl) ?_
    refine lv_aload_n hx hb d_M_comes_6 rfl (lv_at hl 0 rfl) ?_
    refine va_get (D := (dC, dI)) (ci := 8) (v := .int (nI n)) (C := "UpcastStreamsModel") (T := F_M) (N := 29) hx hb hts in_M hown hK hP 0 rfl rfl 2 (by decide) (hts _ uw_3_133) (fun _ h9 => h9) rfl d_M_comes_7 ?_
    refine lv_icmp_lt (tgt := 17) hx hb d_M_comes_10 (by decide) (fun h => absurd ⟨Int32.not_lt.mp c2, h⟩ hbad) (fun c3 => ?_)
    refine lv_iconst (v := (1 : Int32)) hx hb d_M_comes_13 (by decide) ?_
    refine lv_goto (tgt := 18) hx hb d_M_comes_14 (by decide) ?_
    refine va_put (D := (dC, dI)) (ci := 8) (v := .int (1 : Int32)) (ty := .int) (C := "UpcastStreamsModel") (T := F_M) (N := 29) hx hb hts in_M t_M t_M_ok n_M hown hK hP hD hS 0 rfl rfl 1 (by decide) (hts _ uw_3_132) (fun _ h9 => h9) rfl (by decide +kernel) rfl rfl (Nat.le_of_ble_eq_true rfl) d_M_comes_18 (fun H locs hP hD hS => ?_)
    have hP : va_P (dC, dI) vwCl [(mm, .inr (8, [.int mp, .int (1 : Int32), .int (nI n), .ref p1, .ref p2, .ref p3, .ref p4, .ref p5, .int (nI un), .ref p6, .ref p7, .ref p8, .int cm, .ref p9, .ref p10, .ref p11, .int ope, .ref p12, .ref p13, .ref p14, .ref p15, .ref p16, .ref p17, .ref p18, .ref p19, .ref p20, .ref p21, .int (nI he), .ref p22]))] H := hP
    have hD : va_D zA [(mm, .inr (8, [.int mp, .int (1 : Int32), .int (nI n), .ref p1, .ref p2, .ref p3, .ref p4, .ref p5, .int (nI un), .ref p6, .ref p7, .ref p8, .int cm, .ref p9, .ref p10, .ref p11, .int ope, .ref p12, .ref p13, .ref p14, .ref p15, .ref p16, .ref p17, .ref p18, .ref p19, .ref p20, .ref p21, .int (nI he), .ref p22]))] := hD
    refine lv_aload_n hx hb d_M_comes_21 rfl (lv_at hl 0 rfl) ?_
    refine va_get (D := (dC, dI)) (ci := 8) (v := .int (1 : Int32)) (C := "UpcastStreamsModel") (T := F_M) (N := 29) hx hb hts in_M hown hK hP 0 rfl rfl 1 (by decide) (hts _ uw_3_132) (fun _ h9 => h9) rfl d_M_comes_22 ?_
    refine lv_if_le (tgt := 30) hx hb d_M_comes_25 (by decide) (fun h => absurd h (by decide)) (fun c4 => ?_)
    refine lv_iconst (v := (0 : Int32)) hx hb d_M_comes_28 (by decide) ?_
    exact us_iret hQ (by decide) (by decide) hx hb hr hlk hK hS () rfl (by simp) hP hD d_M_comes_29
