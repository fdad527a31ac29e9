set_option maxHeartbeats 4000000 in
set_option maxRecDepth 100000 in
theorem m_isType (zl : Launch) (dC : Nat → ClassId) (dI : Nat → Nat → Nat) (cI cL cS cR : ClassId) (y : Int32)  : us_MetR (S := Int32) zl y_M_isType w_M_isType ({ frames := 0, cells := 0, slots := 0, locals := 0 }) (dC, dI) vwCl (us_ty cI cL cS cR) [.int y] [] (fun u => some (.int u)) (fun u => u = us_b (decide (0 ≤ y ∧ y < 6))) := by
  refine us_ofR (cc := b_M_isType) (maxL := 1) (ret := (some .boolean)) (by decide) (Nat.le_of_ble_eq_true rfl) ?_
  intro zp ze zs zm args below meth zc zA ls zQ hQ hx hb hr hml hts hown hlk hl hK hP hS hA
  have hown : zs.vm.findClass "UpcastStreamsModel" = some zm.cls := hown
  have hl : lv_has ls 1 [(0, .int y)] := hl
  obtain ⟨H, hH⟩ : ∃ H, H = zs.heap := ⟨_, rfl⟩
  rw [← hH] at hP ⊢
  have hS : va_S zA zs.heap H [] := hH ▸ hS
  generalize ([] : List Loc) = locs at hS ⊢
  refine lv_iload_n hx hb d_M_isType_0 rfl (lv_at hl 0 rfl) ?_
  refine lv_if_lt (tgt := 14) hx hb d_M_isType_1 (by decide) (fun c1 => ?_) (fun c1 => ?_)
  · refine lv_iconst (v := (0 : Int32)) hx hb d_M_isType_14 (by decide) ?_
    exact us_rzret hQ (by decide) (by decide) hx hb hr hlk hS (0 : Int32) (by decide) rfl (by first | (rw [decide_eq_true ⟨Int32.not_lt.mp c1, Int32.not_le.mp c2⟩]; rfl) | (rw [decide_eq_false (fun q => absurd q.1 (Int32.not_le.mpr c1))]; rfl) | (rw [decide_eq_false (fun q => absurd q.2 (Int32.not_lt.mpr c2))]; rfl)) d_M_isType_15
  · refine lv_iload_n hx hb d_M_isType_4 rfl (lv_at hl 0 rfl) ?_
    refine lv_bipush (v := (6 : Int32)) hx hb d_M_isType_5 (by decide) ?_
    refine lv_icmp_ge (tgt := 14) hx hb d_M_isType_7 (by decide) (fun c2 => ?_) (fun c2 => ?_)
    · refine lv_iconst (v := (0 : Int32)) hx hb d_M_isType_14 (by decide) ?_
      exact us_rzret hQ (by decide) (by decide) hx hb hr hlk hS (0 : Int32) (by decide) rfl (by first | (rw [decide_eq_true ⟨Int32.not_lt.mp c1, Int32.not_le.mp c2⟩]; rfl) | (rw [decide_eq_false (fun q => absurd q.1 (Int32.not_le.mpr c1))]; rfl) | (rw [decide_eq_false (fun q => absurd q.2 (Int32.not_lt.mpr c2))]; rfl)) d_M_isType_15
    · refine lv_iconst (v := (1 : Int32)) hx hb d_M_isType_10 (by decide) ?_
      refine lv_goto (tgt := 15) hx hb d_M_isType_11 (by decide) ?_
      exact us_rzret hQ (by decide) (by decide) hx hb hr hlk hS (1 : Int32) (by decide) rfl (by first | (rw [decide_eq_true ⟨Int32.not_lt.mp c1, Int32.not_le.mp c2⟩]; rfl) | (rw [decide_eq_false (fun q => absurd q.1 (Int32.not_le.mpr c1))]; rfl) | (rw [decide_eq_false (fun q => absurd q.2 (Int32.not_lt.mpr c2))]; rfl)) d_M_isType_15

set_option maxHeartbeats 4000000 in
set_option maxRecDepth 100000 in
theorem m_isStream (zl : Launch) (dC : Nat → ClassId) (dI : Nat → Nat → Nat) (cI cL cS cR : ClassId) (y : Int32)  : us_MetR (S := Int32) zl y_M_isStream w_M_isStream ({ frames := 0, cells := 0, slots := 0, locals := 0 }) (dC, dI) vwCl (us_ty cI cL cS cR) [.int y] [] (fun u => some (.int u)) (fun u => u = us_b (decide (0 ≤ y ∧ y < 8))) := by
  refine us_ofR (cc := b_M_isStream) (maxL := 1) (ret := (some .boolean)) (by decide) (Nat.le_of_ble_eq_true rfl) ?_
  intro zp ze zs zm args below meth zc zA ls zQ hQ hx hb hr hml hts hown hlk hl hK hP hS hA
  have hown : zs.vm.findClass "UpcastStreamsModel" = some zm.cls := hown
  have hl : lv_has ls 1 [(0, .int y)] := hl
  obtain ⟨H, hH⟩ : ∃ H, H = zs.heap := ⟨_, rfl⟩
  rw [← hH] at hP ⊢
  have hS : va_S zA zs.heap H [] := hH ▸ hS
  generalize ([] : List Loc) = locs at hS ⊢
  refine lv_iload_n hx hb d_M_isStream_0 rfl (lv_at hl 0 rfl) ?_
  refine lv_if_lt (tgt := 14) hx hb d_M_isStream_1 (by decide) (fun c1 => ?_) (fun c1 => ?_)
  · refine lv_iconst (v := (0 : Int32)) hx hb d_M_isStream_14 (by decide) ?_
    exact us_rzret hQ (by decide) (by decide) hx hb hr hlk hS (0 : Int32) (by decide) rfl (by first | (rw [decide_eq_true ⟨Int32.not_lt.mp c1, Int32.not_le.mp c2⟩]; rfl) | (rw [decide_eq_false (fun q => absurd q.1 (Int32.not_le.mpr c1))]; rfl) | (rw [decide_eq_false (fun q => absurd q.2 (Int32.not_lt.mpr c2))]; rfl)) d_M_isStream_15
  · refine lv_iload_n hx hb d_M_isStream_4 rfl (lv_at hl 0 rfl) ?_
    refine lv_bipush (v := (8 : Int32)) hx hb d_M_isStream_5 (by decide) ?_
    refine lv_icmp_ge (tgt := 14) hx hb d_M_isStream_7 (by decide) (fun c2 => ?_) (fun c2 => ?_)
    · refine lv_iconst (v := (0 : Int32)) hx hb d_M_isStream_14 (by decide) ?_
      exact us_rzret hQ (by decide) (by decide) hx hb hr hlk hS (0 : Int32) (by decide) rfl (by first | (rw [decide_eq_true ⟨Int32.not_lt.mp c1, Int32.not_le.mp c2⟩]; rfl) | (rw [decide_eq_false (fun q => absurd q.1 (Int32.not_le.mpr c1))]; rfl) | (rw [decide_eq_false (fun q => absurd q.2 (Int32.not_lt.mpr c2))]; rfl)) d_M_isStream_15
    · refine lv_iconst (v := (1 : Int32)) hx hb d_M_isStream_10 (by decide) ?_
      refine lv_goto (tgt := 15) hx hb d_M_isStream_11 (by decide) ?_
      exact us_rzret hQ (by decide) (by decide) hx hb hr hlk hS (1 : Int32) (by decide) rfl (by first | (rw [decide_eq_true ⟨Int32.not_lt.mp c1, Int32.not_le.mp c2⟩]; rfl) | (rw [decide_eq_false (fun q => absurd q.1 (Int32.not_le.mpr c1))]; rfl) | (rw [decide_eq_false (fun q => absurd q.2 (Int32.not_lt.mpr c2))]; rfl)) d_M_isStream_15

set_option maxHeartbeats 4000000 in
set_option maxRecDepth 100000 in
theorem m_isReader (zl : Launch) (dC : Nat → ClassId) (dI : Nat → Nat → Nat) (cI cL cS cR : ClassId) (y : Int32)  : us_MetR (S := Int32) zl y_M_isReader w_M_isReader ({ frames := 0, cells := 0, slots := 0, locals := 0 }) (dC, dI) vwCl (us_ty cI cL cS cR) [.int y] [] (fun u => some (.int u)) (fun u => u = us_b (decide (0 ≤ y ∧ y < 4))) := by
  refine us_ofR (cc := b_M_isReader) (maxL := 1) (ret := (some .boolean)) (by decide) (Nat.le_of_ble_eq_true rfl) ?_
  intro zp ze zs zm args below meth zc zA ls zQ hQ hx hb hr hml hts hown hlk hl hK hP hS hA
  have hown : zs.vm.findClass "UpcastStreamsModel" = some zm.cls := hown
  have hl : lv_has ls 1 [(0, .int y)] := hl
  obtain ⟨H, hH⟩ : ∃ H, H = zs.heap := ⟨_, rfl⟩
  rw [← hH] at hP ⊢
  have hS : va_S zA zs.heap H [] := hH ▸ hS
  generalize ([] : List Loc) = locs at hS ⊢
  refine lv_iload_n hx hb d_M_isReader_0 rfl (lv_at hl 0 rfl) ?_
  refine lv_if_lt (tgt := 13) hx hb d_M_isReader_1 (by decide) (fun c1 => ?_) (fun c1 => ?_)
  · refine lv_iconst (v := (0 : Int32)) hx hb d_M_isReader_13 (by decide) ?_
    exact us_rzret hQ (by decide) (by decide) hx hb hr hlk hS (0 : Int32) (by decide) rfl (by first | (rw [decide_eq_true ⟨Int32.not_lt.mp c1, Int32.not_le.mp c2⟩]; rfl) | (rw [decide_eq_false (fun q => absurd q.1 (Int32.not_le.mpr c1))]; rfl) | (rw [decide_eq_false (fun q => absurd q.2 (Int32.not_lt.mpr c2))]; rfl)) d_M_isReader_14
  · refine lv_iload_n hx hb d_M_isReader_4 rfl (lv_at hl 0 rfl) ?_
    refine lv_iconst (v := (4 : Int32)) hx hb d_M_isReader_5 (by decide) ?_
    refine lv_icmp_ge (tgt := 13) hx hb d_M_isReader_6 (by decide) (fun c2 => ?_) (fun c2 => ?_)
    · refine lv_iconst (v := (0 : Int32)) hx hb d_M_isReader_13 (by decide) ?_
      exact us_rzret hQ (by decide) (by decide) hx hb hr hlk hS (0 : Int32) (by decide) rfl (by first | (rw [decide_eq_true ⟨Int32.not_lt.mp c1, Int32.not_le.mp c2⟩]; rfl) | (rw [decide_eq_false (fun q => absurd q.1 (Int32.not_le.mpr c1))]; rfl) | (rw [decide_eq_false (fun q => absurd q.2 (Int32.not_lt.mpr c2))]; rfl)) d_M_isReader_14
    · refine lv_iconst (v := (1 : Int32)) hx hb d_M_isReader_9 (by decide) ?_
      refine lv_goto (tgt := 14) hx hb d_M_isReader_10 (by decide) ?_
      exact us_rzret hQ (by decide) (by decide) hx hb hr hlk hS (1 : Int32) (by decide) rfl (by first | (rw [decide_eq_true ⟨Int32.not_lt.mp c1, Int32.not_le.mp c2⟩]; rfl) | (rw [decide_eq_false (fun q => absurd q.1 (Int32.not_le.mpr c1))]; rfl) | (rw [decide_eq_false (fun q => absurd q.2 (Int32.not_lt.mpr c2))]; rfl)) d_M_isReader_14

set_option maxHeartbeats 4000000 in
set_option maxRecDepth 100000 in
theorem m_thrown (zl : Launch) (dC : Nat → ClassId) (dI : Nat → Nat → Nat) (cI cL cS cR : ClassId) (mm : Nat) (p1 : Nat) (p2 : Nat) (p3 : Nat) (p4 : Nat) (p5 : Nat) (p6 : Nat) (p7 : Nat) (p8 : Nat) (p9 : Nat) (p10 : Nat) (p11 : Nat) (p12 : Nat) (p13 : Nat) (p14 : Nat) (p15 : Nat) (p16 : Nat) (p17 : Nat) (p18 : Nat) (p19 : Nat) (p20 : Nat) (p21 : Nat) (p22 : Nat) (mp : Int32) (co : Int32) (cm : Int32) (ope : Int32) (n : Nat) (un : Nat) (he : Nat)  : us_Met (S := Unit) zl y_M_thrown w_M_thrown ({ frames := 0, cells := 0, slots := 0, locals := 0 }) (dC, dI) vwCl (us_ty cI cL cS cR) [.ref mm] [(mm, .inr (8, [.int mp, .int co, .int (nI n), .ref p1, .ref p2, .ref p3, .ref p4, .ref p5, .int (nI un), .ref p6, .ref p7, .ref p8, .int cm, .ref p9, .ref p10, .ref p11, .int ope, .ref p12, .ref p13, .ref p14, .ref p15, .ref p16, .ref p17, .ref p18, .ref p19, .ref p20, .ref p21, .int (nI he), .ref p22]))] (fun u => some (.int co)) (fun u => True) (fun u => [(mm, .inr (8, [.int mp, .int co, .int (nI n), .ref p1, .ref p2, .ref p3, .ref p4, .ref p5, .int (nI un), .ref p6, .ref p7, .ref p8, .int cm, .ref p9, .ref p10, .ref p11, .int ope, .ref p12, .ref p13, .ref p14, .ref p15, .ref p16, .ref p17, .ref p18, .ref p19, .ref p20, .ref p21, .int (nI he), .ref p22]))]) := by
  refine us_ofW (cc := b_M_thrown) (maxL := 1) (ret := (some .int)) (by decide) (Nat.le_of_ble_eq_true rfl) ?_
  intro zp ze zs zm args below meth zc zA ls zQ hQ hx hb hr hml hts hown hlk hin hl hK hP hD hS hA
  have hown : zs.vm.findClass "UpcastStreamsModel" = some zm.cls := hown
  have hl : lv_has ls 1 [(0, .ref mm)] := hl
  obtain ⟨H, hH⟩ : ∃ H, H = zs.heap := ⟨_, rfl⟩
  rw [← hH] at hP ⊢
  have hS : va_S zA zs.heap H [] := hH ▸ hS
  generalize ([] : List Loc) = locs at hS ⊢
  refine lv_aload_n hx hb d_M_thrown_0 rfl (lv_at hl 0 rfl) ?_
  refine va_get (D := (dC, dI)) (ci := 8) (v := .int co) (C := "UpcastStreamsModel") (T := F_M) (N := 29) hx hb hts in_M hown hK hP 0 rfl rfl 1 (by decide) (hts _ uw_3_132) (fun _ h9 => h9) rfl d_M_thrown_1 ?_
  exact us_iret hQ (by decide) (by decide) hx hb hr hlk hK hS () rfl (by simp) hP hD d_M_thrown_4

set_option maxHeartbeats 4000000 in
set_option maxRecDepth 100000 in
theorem m_total (zl : Launch) (dC : Nat → ClassId) (dI : Nat → Nat → Nat) (cI cL cS cR : ClassId) (mm : Nat) (p1 : Nat) (p2 : Nat) (p3 : Nat) (p4 : Nat) (p5 : Nat) (p6 : Nat) (p7 : Nat) (p8 : Nat) (p9 : Nat) (p10 : Nat) (p11 : Nat) (p12 : Nat) (p13 : Nat) (p14 : Nat) (p15 : Nat) (p16 : Nat) (p17 : Nat) (p18 : Nat) (p19 : Nat) (p20 : Nat) (p21 : Nat) (p22 : Nat) (mp : Int32) (co : Int32) (cm : Int32) (ope : Int32) (n : Nat) (un : Nat) (he : Nat)  : us_Met (S := Unit) zl y_M_total w_M_total ({ frames := 0, cells := 0, slots := 0, locals := 0 }) (dC, dI) vwCl (us_ty cI cL cS cR) [.ref mm] [(mm, .inr (8, [.int mp, .int co, .int (nI n), .ref p1, .ref p2, .ref p3, .ref p4, .ref p5, .int (nI un), .ref p6, .ref p7, .ref p8, .int cm, .ref p9, .ref p10, .ref p11, .int ope, .ref p12, .ref p13, .ref p14, .ref p15, .ref p16, .ref p17, .ref p18, .ref p19, .ref p20, .ref p21, .int (nI he), .ref p22]))] (fun u => some (.int (nI n))) (fun u => True) (fun u => [(mm, .inr (8, [.int mp, .int (0 : Int32), .int (nI n), .ref p1, .ref p2, .ref p3, .ref p4, .ref p5, .int (nI un), .ref p6, .ref p7, .ref p8, .int cm, .ref p9, .ref p10, .ref p11, .int ope, .ref p12, .ref p13, .ref p14, .ref p15, .ref p16, .ref p17, .ref p18, .ref p19, .ref p20, .ref p21, .int (nI he), .ref p22]))]) := by
  refine us_ofW (cc := b_M_total) (maxL := 1) (ret := (some .int)) (by decide) (Nat.le_of_ble_eq_true rfl) ?_
  intro zp ze zs zm args below meth zc zA ls zQ hQ hx hb hr hml hts hown hlk hin hl hK hP hD hS hA
  have hown : zs.vm.findClass "UpcastStreamsModel" = some zm.cls := hown
  have hl : lv_has ls 1 [(0, .ref mm)] := hl
  obtain ⟨H, hH⟩ : ∃ H, H = zs.heap := ⟨_, rfl⟩
  rw [← hH] at hP ⊢
  have hS : va_S zA zs.heap H [] := hH ▸ hS
  generalize ([] : List Loc) = locs at hS ⊢
  refine lv_aload_n hx hb d_M_total_0 rfl (lv_at hl 0 rfl) ?_
  refine lv_iconst (v := (0 : Int32)) hx hb d_M_total_1 (by decide) ?_
  refine va_put (D := (dC, dI)) (ci := 8) (v := .int (0 : Int32)) (ty := .int) (C := "UpcastStreamsModel") (T := F_M) (N := 29) hx hb hts in_M t_M t_M_ok n_M hown hK hP hD hS 0 rfl rfl 1 (by decide) (hts _ uw_3_132) (fun _ h9 => h9) rfl (by decide +kernel) rfl rfl (Nat.le_of_ble_eq_true rfl) d_M_total_2 (fun H locs hP hD hS => ?_)
  have hP : va_P (dC, dI) vwCl [(mm, .inr (8, [.int mp, .int (0 : Int32), .int (nI n), .ref p1, .ref p2, .ref p3, .ref p4, .ref p5, .int (nI un), .ref p6, .ref p7, .ref p8, .int cm, .ref p9, .ref p10, .ref p11, .int ope, .ref p12, .ref p13, .ref p14, .ref p15, .ref p16, .ref p17, .ref p18, .ref p19, .ref p20, .ref p21, .int (nI he), .ref p22]))] H := hP
  have hD : va_D zA [(mm, .inr (8, [.int mp, .int (0 : Int32), .int (nI n), .ref p1, .ref p2, .ref p3, .ref p4, .ref p5, .int (nI un), .ref p6, .ref p7, .ref p8, .int cm, .ref p9, .ref p10, .ref p11, .int ope, .ref p12, .ref p13, .ref p14, .ref p15, .ref p16, .ref p17, .ref p18, .ref p19, .ref p20, .ref p21, .int (nI he), .ref p22]))] := hD
  refine lv_aload_n hx hb d_M_total_5 rfl (lv_at hl 0 rfl) ?_
  refine va_get (D := (dC, dI)) (ci := 8) (v := .int (nI n)) (C := "UpcastStreamsModel") (T := F_M) (N := 29) hx hb hts in_M hown hK hP 0 rfl rfl 2 (by decide) (hts _ uw_3_133) (fun _ h9 => h9) rfl d_M_total_6 ?_
  exact us_iret hQ (by decide) (by decide) hx hb hr hlk hK hS () rfl (by simp) hP hD d_M_total_9

set_option maxHeartbeats 4000000 in
set_option maxRecDepth 100000 in
theorem m_unstage (zl : Launch) (dC : Nat → ClassId) (dI : Nat → Nat → Nat) (cI cL cS cR : ClassId) (mm : Nat) (p1 : Nat) (p2 : Nat) (p3 : Nat) (p4 : Nat) (p5 : Nat) (p6 : Nat) (p7 : Nat) (p8 : Nat) (p9 : Nat) (p10 : Nat) (p11 : Nat) (p12 : Nat) (p13 : Nat) (p14 : Nat) (p15 : Nat) (p16 : Nat) (p17 : Nat) (p18 : Nat) (p19 : Nat) (p20 : Nat) (p21 : Nat) (p22 : Nat) (mp : Int32) (co : Int32) (cm : Int32) (ope : Int32) (n : Nat) (un : Nat) (he : Nat)  : us_Met (S := Unit) zl y_M_unstage w_M_unstage ({ frames := 0, cells := 0, slots := 0, locals := 0 }) (dC, dI) vwCl (us_ty cI cL cS cR) [.ref mm] [(mm, .inr (8, [.int mp, .int co, .int (nI n), .ref p1, .ref p2, .ref p3, .ref p4, .ref p5, .int (nI un), .ref p6, .ref p7, .ref p8, .int cm, .ref p9, .ref p10, .ref p11, .int ope, .ref p12, .ref p13, .ref p14, .ref p15, .ref p16, .ref p17, .ref p18, .ref p19, .ref p20, .ref p21, .int (nI he), .ref p22]))] (fun u => some (.int (nI un))) (fun u => True) (fun u => [(mm, .inr (8, [.int mp, .int (0 : Int32), .int (nI n), .ref p1, .ref p2, .ref p3, .ref p4, .ref p5, .int (nI 0), .ref p6, .ref p7, .ref p8, .int cm, .ref p9, .ref p10, .ref p11, .int ope, .ref p12, .ref p13, .ref p14, .ref p15, .ref p16, .ref p17, .ref p18, .ref p19, .ref p20, .ref p21, .int (nI he), .ref p22]))]) := by
  refine us_ofW (cc := b_M_unstage) (maxL := 2) (ret := (some .int)) (by decide) (Nat.le_of_ble_eq_true rfl) ?_
  intro zp ze zs zm args below meth zc zA ls zQ hQ hx hb hr hml hts hown hlk hin hl hK hP hD hS hA
  have hown : zs.vm.findClass "UpcastStreamsModel" = some zm.cls := hown
  have hl : lv_has ls 2 [(0, .ref mm)] := hl
  obtain ⟨H, hH⟩ : ∃ H, H = zs.heap := ⟨_, rfl⟩
  rw [← hH] at hP ⊢
  have hS : va_S zA zs.heap H [] := hH ▸ hS
  generalize ([] : List Loc) = locs at hS ⊢
  refine lv_aload_n hx hb d_M_unstage_0 rfl (lv_at hl 0 rfl) ?_
  refine lv_iconst (v := (0 : Int32)) hx hb d_M_unstage_1 (by decide) ?_
  refine va_put (D := (dC, dI)) (ci := 8) (v := .int (0 : Int32)) (ty := .int) (C := "UpcastStreamsModel") (T := F_M) (N := 29) hx hb hts in_M t_M t_M_ok n_M hown hK hP hD hS 0 rfl rfl 1 (by decide) (hts _ uw_3_132) (fun _ h9 => h9) rfl (by decide +kernel) rfl rfl (Nat.le_of_ble_eq_true rfl) d_M_unstage_2 (fun H locs hP hD hS => ?_)
  have hP : va_P (dC, dI) vwCl [(mm, .inr (8, [.int mp, .int (0 : Int32), .int (nI n), .ref p1, .ref p2, .ref p3, .ref p4, .ref p5, .int (nI un), .ref p6, .ref p7, .ref p8, .int cm, .ref p9, .ref p10, .ref p11, .int ope, .ref p12, .ref p13, .ref p14, .ref p15, .ref p16, .ref p17, .ref p18, .ref p19, .ref p20, .ref p21, .int (nI he), .ref p22]))] H := hP
  have hD : va_D zA [(mm, .inr (8, [.int mp, .int (0 : Int32), .int (nI n), .ref p1, .ref p2, .ref p3, .ref p4, .ref p5, .int (nI un), .ref p6, .ref p7, .ref p8, .int cm, .ref p9, .ref p10, .ref p11, .int ope, .ref p12, .ref p13, .ref p14, .ref p15, .ref p16, .ref p17, .ref p18, .ref p19, .ref p20, .ref p21, .int (nI he), .ref p22]))] := hD
  refine lv_aload_n hx hb d_M_unstage_5 rfl (lv_at hl 0 rfl) ?_
  refine va_get (D := (dC, dI)) (ci := 8) (v := .int (nI un)) (C := "UpcastStreamsModel") (T := F_M) (N := 29) hx hb hts in_M hown hK hP 0 rfl rfl 8 (by decide) (hts _ uw_3_139) (fun _ h9 => h9) rfl d_M_unstage_6 ?_
  refine lv_istore_n (lv' := [(1, .int (nI un)), (0, .ref mm)]) hx hb d_M_unstage_9 rfl hl (by decide) rfl (fun ls hl => ?_)
  refine lv_aload_n hx hb d_M_unstage_10 rfl (lv_at hl 1 rfl) ?_
  refine lv_iconst (v := (0 : Int32)) hx hb d_M_unstage_11 (by decide) ?_
  refine va_put (D := (dC, dI)) (ci := 8) (v := .int (0 : Int32)) (ty := .int) (C := "UpcastStreamsModel") (T := F_M) (N := 29) hx hb hts in_M t_M t_M_ok n_M hown hK hP hD hS 0 rfl rfl 8 (by decide) (hts _ uw_3_139) (fun _ h9 => h9) rfl (by decide +kernel) rfl rfl (Nat.le_of_ble_eq_true rfl) d_M_unstage_12 (fun H locs hP hD hS => ?_)
  have hP : va_P (dC, dI) vwCl [(mm, .inr (8, [.int mp, .int (0 : Int32), .int (nI n), .ref p1, .ref p2, .ref p3, .ref p4, .ref p5, .int (0 : Int32), .ref p6, .ref p7, .ref p8, .int cm, .ref p9, .ref p10, .ref p11, .int ope, .ref p12, .ref p13, .ref p14, .ref p15, .ref p16, .ref p17, .ref p18, .ref p19, .ref p20, .ref p21, .int (nI he), .ref p22]))] H := hP
  have hD : va_D zA [(mm, .inr (8, [.int mp, .int (0 : Int32), .int (nI n), .ref p1, .ref p2, .ref p3, .ref p4, .ref p5, .int (0 : Int32), .ref p6, .ref p7, .ref p8, .int cm, .ref p9, .ref p10, .ref p11, .int ope, .ref p12, .ref p13, .ref p14, .ref p15, .ref p16, .ref p17, .ref p18, .ref p19, .ref p20, .ref p21, .int (nI he), .ref p22]))] := hD
  refine lv_iload_n hx hb d_M_unstage_15 rfl (lv_at hl 0 rfl) ?_
  exact us_iret hQ (by decide) (by decide) hx hb hr hlk hK hS () rfl (by simp) hP hD d_M_unstage_16

set_option maxHeartbeats 4000000 in
set_option maxRecDepth 100000 in
theorem m_forgetSnapshots (zl : Launch) (dC : Nat → ClassId) (dI : Nat → Nat → Nat) (cI cL cS cR : ClassId) (mm : Nat) (p1 : Nat) (p2 : Nat) (p3 : Nat) (p4 : Nat) (p5 : Nat) (p6 : Nat) (p7 : Nat) (p8 : Nat) (p9 : Nat) (p10 : Nat) (p11 : Nat) (p12 : Nat) (p13 : Nat) (p14 : Nat) (p15 : Nat) (p16 : Nat) (p17 : Nat) (p18 : Nat) (p19 : Nat) (p20 : Nat) (p21 : Nat) (p22 : Nat) (mp : Int32) (co : Int32) (cm : Int32) (ope : Int32) (n : Nat) (un : Nat) (he : Nat) (SN : Nat → Int32)  : us_Met (S := (Nat → Int32)) zl y_M_forgetSnapshots w_M_forgetSnapshots ({ frames := 0, cells := 0, slots := 0, locals := 0 }) (dC, dI) vwCl (us_ty cI cL cS cR) [.ref mm] [(mm, .inr (8, [.int mp, .int co, .int (nI n), .ref p1, .ref p2, .ref p3, .ref p4, .ref p5, .int (nI un), .ref p6, .ref p7, .ref p8, .int cm, .ref p9, .ref p10, .ref p11, .int ope, .ref p12, .ref p13, .ref p14, .ref p15, .ref p16, .ref p17, .ref p18, .ref p19, .ref p20, .ref p21, .int (nI he), .ref p22])), (p8, .inl (cI, 16, .inl SN))] (fun _ => none) (fun u => ∀ q, q < 16 → u q = -1) (fun u => [(mm, .inr (8, [.int mp, .int co, .int (nI n), .ref p1, .ref p2, .ref p3, .ref p4, .ref p5, .int (nI un), .ref p6, .ref p7, .ref p8, .int cm, .ref p9, .ref p10, .ref p11, .int ope, .ref p12, .ref p13, .ref p14, .ref p15, .ref p16, .ref p17, .ref p18, .ref p19, .ref p20, .ref p21, .int (nI he), .ref p22])), (p8, .inl (cI, 16, .inl u))]) := by
  refine us_ofW (cc := b_M_forgetSnapshots) (maxL := 2) (ret := none) (by decide) (Nat.le_of_ble_eq_true rfl) ?_
  intro zp ze zs zm args below meth zc zA ls zQ hQ hx hb hr hml hts hown hlk hin hl hK hP hD hS hA
  have hown : zs.vm.findClass "UpcastStreamsModel" = some zm.cls := hown
  have hl : lv_has ls 2 [(0, .ref mm)] := hl
  obtain ⟨H, hH⟩ : ∃ H, H = zs.heap := ⟨_, rfl⟩
  rw [← hH] at hP ⊢
  have hS : va_S zA zs.heap H [] := hH ▸ hS
  generalize ([] : List Loc) = locs at hS ⊢
  refine lv_iconst (v := (0 : Int32)) hx hb d_M_forgetSnapshots_0 (by decide) ?_
  refine lv_istore_n (lv' := [(1, .int (0 : Int32)), (0, .ref mm)]) hx hb d_M_forgetSnapshots_1 rfl hl (by decide) rfl (fun ls hl => ?_)
  have loop2 : ∀ (fuel : Nat) (i : Nat) (S1 : Nat → Int32) (H : Heap) (locs : List Loc) (ls : Array Slot), lv_has ls 2 [(1, .int (nI i)), (0, .ref mm)] → va_P (dC, dI) vwCl [(mm, .inr (8, [.int mp, .int co, .int (nI n), .ref p1, .ref p2, .ref p3, .ref p4, .ref p5, .int (nI un), .ref p6, .ref p7, .ref p8, .int cm, .ref p9, .ref p10, .ref p11, .int ope, .ref p12, .ref p13, .ref p14, .ref p15, .ref p16, .ref p17, .ref p18, .ref p19, .ref p20, .ref p21, .int (nI he), .ref p22])), (p8, .inl (cI, 16, .inl S1))] H → va_D zA [(mm, .inr (8, [.int mp, .int co, .int (nI n), .ref p1, .ref p2, .ref p3, .ref p4, .ref p5, .int (nI un), .ref p6, .ref p7, .ref p8, .int cm, .ref p9, .ref p10, .ref p11, .int ope, .ref p12, .ref p13, .ref p14, .ref p15, .ref p16, .ref p17, .ref p18, .ref p19, .ref p20, .ref p21, .int (nI he), .ref p22])), (p8, .inl (cI, 16, .inl S1))] → va_S zA zs.heap H locs → (i ≤ 16) → (∀ q, q < i → S1 q = -1) → 17 - i ≤ fuel → W zp zl ze ({ frames := 0, cells := 0, slots := 0, locals := 0 }) zs zm args below meth zc H locs 0 0 zQ (F0 zm 2 ls []) := by
    intro fuel
    induction fuel with
    | zero => intro i S1 H locs ls hl hP hD hS hi hI hm; exact absurd hm (by omega)
    | succ fuel ih =>
      intro i S1 H locs ls hl hP hD hS hi hI hm
      refine lv_iload_n hx hb d_M_forgetSnapshots_2 rfl (lv_at hl 0 rfl) ?_
      refine lv_bipush (v := (16 : Int32)) hx hb d_M_forgetSnapshots_3 (by decide) ?_
      refine lv_icmp_ge (tgt := 21) hx hb d_M_forgetSnapshots_5 (by decide) (fun c5 => ?_) (fun c5 => ?_)
      · exact us_vret hQ (by decide) (by decide) hx hb hr hlk hK hS S1 rfl (fun q hq => hI q (by have : ¬ i < 16 := fun z => absurd c5 (nI_ge (b := 16) z (by omega)); omega)) hP hD d_M_forgetSnapshots_21
      · have hi2 : i < 16 := by rcases Nat.lt_or_ge i 16 with z | z; exact z; exact absurd (nI_le (a := 16) z (by omega)) c5
        refine lv_aload_n hx hb d_M_forgetSnapshots_8 rfl (lv_at hl 1 rfl) ?_
        refine va_get (D := (dC, dI)) (ci := 8) (v := .ref p8) (C := "UpcastStreamsModel") (T := F_M) (N := 29) hx hb hts in_M hown hK hP 0 rfl rfl 11 (by decide) (hts _ uw_3_142) (fun _ h9 => h9) rfl d_M_forgetSnapshots_9 ?_
        refine lv_iload_n hx hb d_M_forgetSnapshots_12 rfl (lv_at hl 0 rfl) ?_
        refine lv_iconst (v := (-1 : Int32)) hx hb d_M_forgetSnapshots_13 (by decide) ?_
        refine us_iast (j := i) hx hb hK hP hD hS 1 0 rfl rfl (vp_in_nI (by omega) (by omega)) (nI_clamp (by omega)) d_M_forgetSnapshots_14 (fun H locs hP hD hS => ?_)
        have hP : va_P (dC, dI) vwCl [(mm, .inr (8, [.int mp, .int co, .int (nI n), .ref p1, .ref p2, .ref p3, .ref p4, .ref p5, .int (nI un), .ref p6, .ref p7, .ref p8, .int cm, .ref p9, .ref p10, .ref p11, .int ope, .ref p12, .ref p13, .ref p14, .ref p15, .ref p16, .ref p17, .ref p18, .ref p19, .ref p20, .ref p21, .int (nI he), .ref p22])), (p8, .inl (cI, 16, .inl (upd S1 i (-1 : Int32))))] H := hP
        have hD : va_D zA [(mm, .inr (8, [.int mp, .int co, .int (nI n), .ref p1, .ref p2, .ref p3, .ref p4, .ref p5, .int (nI un), .ref p6, .ref p7, .ref p8, .int cm, .ref p9, .ref p10, .ref p11, .int ope, .ref p12, .ref p13, .ref p14, .ref p15, .ref p16, .ref p17, .ref p18, .ref p19, .ref p20, .ref p21, .int (nI he), .ref p22])), (p8, .inl (cI, 16, .inl (upd S1 i (-1 : Int32))))] := hD
        refine lv_iinc (k := 0) (v := nI (i + 1)) (lv' := [(1, .int (nI (i + 1))), (0, .ref mm)]) hx hb d_M_forgetSnapshots_15 hl rfl (us_inc _) (by decide) rfl (fun ls hl => ?_)
        refine lv_goto (tgt := 2) hx hb d_M_forgetSnapshots_18 (by decide) ?_
        exact ih (i + 1) (upd S1 i (-1)) H locs ls (lv_sub hl [0, 1] rfl) hP hD hS (by omega) (fun q hq => by by_cases h : q = i; (rw [h, us_upd_s]); (rw [us_upd_n h]; exact hI q (by omega))) (by omega)
  exact loop2 _ 0 SN _ _ ls (lv_sub hl [0, 1] rfl) hP hD hS (by omega) (fun q hq => absurd hq (by omega)) (Nat.le_refl _)

set_option maxHeartbeats 4000000 in
set_option maxRecDepth 100000 in
theorem m_push (zl : Launch) (dC : Nat → ClassId) (dI : Nat → Nat → Nat) (cI cL cS cR : ClassId) (mm : Nat) (p1 : Nat) (p2 : Nat) (p3 : Nat) (p4 : Nat) (p5 : Nat) (p6 : Nat) (p7 : Nat) (p8 : Nat) (p9 : Nat) (p10 : Nat) (p11 : Nat) (p12 : Nat) (p13 : Nat) (p14 : Nat) (p15 : Nat) (p16 : Nat) (p17 : Nat) (p18 : Nat) (p19 : Nat) (p20 : Nat) (p21 : Nat) (p22 : Nat) (mp : Int32) (co : Int32) (cm : Int32) (n : Nat) (un : Nat) (he : Nat) (O1 : Nat → Int32) (O2 : Nat → Int32) (O3 : Nat → Int32) (O4 : Nat → Int32) (t : Int32) (f : Int32) (a : Int32) (b : Int32) (o : Nat) (ho : o < 8) : us_Met (S := Unit) zl y_M_push w_M_push ({ frames := 0, cells := 0, slots := 0, locals := 0 }) (dC, dI) vwCl (us_ty cI cL cS cR) [.ref mm, .int t, .int f, .int a, .int b] [(mm, .inr (8, [.int mp, .int co, .int (nI n), .ref p1, .ref p2, .ref p3, .ref p4, .ref p5, .int (nI un), .ref p6, .ref p7, .ref p8, .int cm, .ref p9, .ref p10, .ref p11, .int (nI o), .ref p12, .ref p13, .ref p14, .ref p15, .ref p16, .ref p17, .ref p18, .ref p19, .ref p20, .ref p21, .int (nI he), .ref p22])), (p12, .inl (cI, 8, .inl O1)), (p13, .inl (cI, 8, .inl O2)), (p14, .inl (cI, 8, .inl O3)), (p15, .inl (cI, 8, .inl O4))] (fun _ => none) (fun u => True) (fun u => [(mm, .inr (8, [.int mp, .int co, .int (nI n), .ref p1, .ref p2, .ref p3, .ref p4, .ref p5, .int (nI un), .ref p6, .ref p7, .ref p8, .int cm, .ref p9, .ref p10, .ref p11, .int (nI (o + 1)), .ref p12, .ref p13, .ref p14, .ref p15, .ref p16, .ref p17, .ref p18, .ref p19, .ref p20, .ref p21, .int (nI he), .ref p22])), (p12, .inl (cI, 8, .inl (upd O1 o t))), (p13, .inl (cI, 8, .inl (upd O2 o f))), (p14, .inl (cI, 8, .inl (upd O3 o a))), (p15, .inl (cI, 8, .inl (upd O4 o b)))]) := by
  refine us_ofW (cc := b_M_push) (maxL := 5) (ret := none) (by decide) (Nat.le_of_ble_eq_true rfl) ?_
  intro zp ze zs zm args below meth zc zA ls zQ hQ hx hb hr hml hts hown hlk hin hl hK hP hD hS hA
  have hown : zs.vm.findClass "UpcastStreamsModel" = some zm.cls := hown
  have hl : lv_has ls 5 [(0, .ref mm), (1, .int t), (2, .int f), (3, .int a), (4, .int b)] := hl
  obtain ⟨H, hH⟩ : ∃ H, H = zs.heap := ⟨_, rfl⟩
  rw [← hH] at hP ⊢
  have hS : va_S zA zs.heap H [] := hH ▸ hS
  generalize ([] : List Loc) = locs at hS ⊢
  refine lv_aload_n hx hb d_M_push_0 rfl (lv_at hl 0 rfl) ?_
  refine va_get (D := (dC, dI)) (ci := 8) (v := .ref p12) (C := "UpcastStreamsModel") (T := F_M) (N := 29) hx hb hts in_M hown hK hP 0 rfl rfl 17 (by decide) (hts _ uw_3_148) (fun _ h9 => h9) rfl d_M_push_1 ?_
  refine lv_aload_n hx hb d_M_push_4 rfl (lv_at hl 0 rfl) ?_
  refine va_get (D := (dC, dI)) (ci := 8) (v := .int (nI o)) (C := "UpcastStreamsModel") (T := F_M) (N := 29) hx hb hts in_M hown hK hP 0 rfl rfl 16 (by decide) (hts _ uw_3_147) (fun _ h9 => h9) rfl d_M_push_5 ?_
  refine lv_iload_n hx hb d_M_push_8 rfl (lv_at hl 1 rfl) ?_
  refine us_iast (j := o) hx hb hK hP hD hS 1 0 rfl rfl (vp_in_nI (by omega) (by omega)) (nI_clamp (by omega)) d_M_push_9 (fun H locs hP hD hS => ?_)
  have hP : va_P (dC, dI) vwCl [(mm, .inr (8, [.int mp, .int co, .int (nI n), .ref p1, .ref p2, .ref p3, .ref p4, .ref p5, .int (nI un), .ref p6, .ref p7, .ref p8, .int cm, .ref p9, .ref p10, .ref p11, .int (nI o), .ref p12, .ref p13, .ref p14, .ref p15, .ref p16, .ref p17, .ref p18, .ref p19, .ref p20, .ref p21, .int (nI he), .ref p22])), (p12, .inl (cI, 8, .inl (upd O1 o t))), (p13, .inl (cI, 8, .inl O2)), (p14, .inl (cI, 8, .inl O3)), (p15, .inl (cI, 8, .inl O4))] H := hP
  have hD : va_D zA [(mm, .inr (8, [.int mp, .int co, .int (nI n), .ref p1, .ref p2, .ref p3, .ref p4, .ref p5, .int (nI un), .ref p6, .ref p7, .ref p8, .int cm, .ref p9, .ref p10, .ref p11, .int (nI o), .ref p12, .ref p13, .ref p14, .ref p15, .ref p16, .ref p17, .ref p18, .ref p19, .ref p20, .ref p21, .int (nI he), .ref p22])), (p12, .inl (cI, 8, .inl (upd O1 o t))), (p13, .inl (cI, 8, .inl O2)), (p14, .inl (cI, 8, .inl O3)), (p15, .inl (cI, 8, .inl O4))] := hD
  refine lv_aload_n hx hb d_M_push_10 rfl (lv_at hl 0 rfl) ?_
  refine va_get (D := (dC, dI)) (ci := 8) (v := .ref p13) (C := "UpcastStreamsModel") (T := F_M) (N := 29) hx hb hts in_M hown hK hP 0 rfl rfl 18 (by decide) (hts _ uw_3_149) (fun _ h9 => h9) rfl d_M_push_11 ?_
  refine lv_aload_n hx hb d_M_push_14 rfl (lv_at hl 0 rfl) ?_
  refine va_get (D := (dC, dI)) (ci := 8) (v := .int (nI o)) (C := "UpcastStreamsModel") (T := F_M) (N := 29) hx hb hts in_M hown hK hP 0 rfl rfl 16 (by decide) (hts _ uw_3_147) (fun _ h9 => h9) rfl d_M_push_15 ?_
  refine lv_iload_n hx hb d_M_push_18 rfl (lv_at hl 2 rfl) ?_
  refine us_iast (j := o) hx hb hK hP hD hS 2 0 rfl rfl (vp_in_nI (by omega) (by omega)) (nI_clamp (by omega)) d_M_push_19 (fun H locs hP hD hS => ?_)
  have hP : va_P (dC, dI) vwCl [(mm, .inr (8, [.int mp, .int co, .int (nI n), .ref p1, .ref p2, .ref p3, .ref p4, .ref p5, .int (nI un), .ref p6, .ref p7, .ref p8, .int cm, .ref p9, .ref p10, .ref p11, .int (nI o), .ref p12, .ref p13, .ref p14, .ref p15, .ref p16, .ref p17, .ref p18, .ref p19, .ref p20, .ref p21, .int (nI he), .ref p22])), (p12, .inl (cI, 8, .inl (upd O1 o t))), (p13, .inl (cI, 8, .inl (upd O2 o f))), (p14, .inl (cI, 8, .inl O3)), (p15, .inl (cI, 8, .inl O4))] H := hP
  have hD : va_D zA [(mm, .inr (8, [.int mp, .int co, .int (nI n), .ref p1, .ref p2, .ref p3, .ref p4, .ref p5, .int (nI un), .ref p6, .ref p7, .ref p8, .int cm, .ref p9, .ref p10, .ref p11, .int (nI o), .ref p12, .ref p13, .ref p14, .ref p15, .ref p16, .ref p17, .ref p18, .ref p19, .ref p20, .ref p21, .int (nI he), .ref p22])), (p12, .inl (cI, 8, .inl (upd O1 o t))), (p13, .inl (cI, 8, .inl (upd O2 o f))), (p14, .inl (cI, 8, .inl O3)), (p15, .inl (cI, 8, .inl O4))] := hD
  refine lv_aload_n hx hb d_M_push_20 rfl (lv_at hl 0 rfl) ?_
  refine va_get (D := (dC, dI)) (ci := 8) (v := .ref p14) (C := "UpcastStreamsModel") (T := F_M) (N := 29) hx hb hts in_M hown hK hP 0 rfl rfl 19 (by decide) (hts _ uw_3_150) (fun _ h9 => h9) rfl d_M_push_21 ?_
  refine lv_aload_n hx hb d_M_push_24 rfl (lv_at hl 0 rfl) ?_
  refine va_get (D := (dC, dI)) (ci := 8) (v := .int (nI o)) (C := "UpcastStreamsModel") (T := F_M) (N := 29) hx hb hts in_M hown hK hP 0 rfl rfl 16 (by decide) (hts _ uw_3_147) (fun _ h9 => h9) rfl d_M_push_25 ?_
  refine lv_iload_n hx hb d_M_push_28 rfl (lv_at hl 3 rfl) ?_
  refine us_iast (j := o) hx hb hK hP hD hS 3 0 rfl rfl (vp_in_nI (by omega) (by omega)) (nI_clamp (by omega)) d_M_push_29 (fun H locs hP hD hS => ?_)
  have hP : va_P (dC, dI) vwCl [(mm, .inr (8, [.int mp, .int co, .int (nI n), .ref p1, .ref p2, .ref p3, .ref p4, .ref p5, .int (nI un), .ref p6, .ref p7, .ref p8, .int cm, .ref p9, .ref p10, .ref p11, .int (nI o), .ref p12, .ref p13, .ref p14, .ref p15, .ref p16, .ref p17, .ref p18, .ref p19, .ref p20, .ref p21, .int (nI he), .ref p22])), (p12, .inl (cI, 8, .inl (upd O1 o t))), (p13, .inl (cI, 8, .inl (upd O2 o f))), (p14, .inl (cI, 8, .inl (upd O3 o a))), (p15, .inl (cI, 8, .inl O4))] H := hP
  have hD : va_D zA [(mm, .inr (8, [.int mp, .int co, .int (nI n), .ref p1, .ref p2, .ref p3, .ref p4, .ref p5, .int (nI un), .ref p6, .ref p7, .ref p8, .int cm, .ref p9, .ref p10, .ref p11, .int (nI o), .ref p12, .ref p13, .ref p14, .ref p15, .ref p16, .ref p17, .ref p18, .ref p19, .ref p20, .ref p21, .int (nI he), .ref p22])), (p12, .inl (cI, 8, .inl (upd O1 o t))), (p13, .inl (cI, 8, .inl (upd O2 o f))), (p14, .inl (cI, 8, .inl (upd O3 o a))), (p15, .inl (cI, 8, .inl O4))] := hD
  refine lv_aload_n hx hb d_M_push_30 rfl (lv_at hl 0 rfl) ?_
  refine va_get (D := (dC, dI)) (ci := 8) (v := .ref p15) (C := "UpcastStreamsModel") (T := F_M) (N := 29) hx hb hts in_M hown hK hP 0 rfl rfl 20 (by decide) (hts _ uw_3_151) (fun _ h9 => h9) rfl d_M_push_31 ?_
  refine lv_aload_n hx hb d_M_push_34 rfl (lv_at hl 0 rfl) ?_
  refine va_get (D := (dC, dI)) (ci := 8) (v := .int (nI o)) (C := "UpcastStreamsModel") (T := F_M) (N := 29) hx hb hts in_M hown hK hP 0 rfl rfl 16 (by decide) (hts _ uw_3_147) (fun _ h9 => h9) rfl d_M_push_35 ?_
  refine lv_iload hx hb d_M_push_38 (lv_at hl 4 rfl) ?_
  refine us_iast (j := o) hx hb hK hP hD hS 4 0 rfl rfl (vp_in_nI (by omega) (by omega)) (nI_clamp (by omega)) d_M_push_40 (fun H locs hP hD hS => ?_)
  have hP : va_P (dC, dI) vwCl [(mm, .inr (8, [.int mp, .int co, .int (nI n), .ref p1, .ref p2, .ref p3, .ref p4, .ref p5, .int (nI un), .ref p6, .ref p7, .ref p8, .int cm, .ref p9, .ref p10, .ref p11, .int (nI o), .ref p12, .ref p13, .ref p14, .ref p15, .ref p16, .ref p17, .ref p18, .ref p19, .ref p20, .ref p21, .int (nI he), .ref p22])), (p12, .inl (cI, 8, .inl (upd O1 o t))), (p13, .inl (cI, 8, .inl (upd O2 o f))), (p14, .inl (cI, 8, .inl (upd O3 o a))), (p15, .inl (cI, 8, .inl (upd O4 o b)))] H := hP
  have hD : va_D zA [(mm, .inr (8, [.int mp, .int co, .int (nI n), .ref p1, .ref p2, .ref p3, .ref p4, .ref p5, .int (nI un), .ref p6, .ref p7, .ref p8, .int cm, .ref p9, .ref p10, .ref p11, .int (nI o), .ref p12, .ref p13, .ref p14, .ref p15, .ref p16, .ref p17, .ref p18, .ref p19, .ref p20, .ref p21, .int (nI he), .ref p22])), (p12, .inl (cI, 8, .inl (upd O1 o t))), (p13, .inl (cI, 8, .inl (upd O2 o f))), (p14, .inl (cI, 8, .inl (upd O3 o a))), (p15, .inl (cI, 8, .inl (upd O4 o b)))] := hD
  refine lv_aload_n hx hb d_M_push_41 rfl (lv_at hl 0 rfl) ?_
  refine lv_aload_n hx hb d_M_push_42 rfl (lv_at hl 0 rfl) ?_
  refine va_get (D := (dC, dI)) (ci := 8) (v := .int (nI o)) (C := "UpcastStreamsModel") (T := F_M) (N := 29) hx hb hts in_M hown hK hP 0 rfl rfl 16 (by decide) (hts _ uw_3_147) (fun _ h9 => h9) rfl d_M_push_43 ?_
  refine lv_iconst (v := (1 : Int32)) hx hb d_M_push_46 (by decide) ?_
  refine lv_iadd hx hb d_M_push_47 ?_
  refine us_top (show ((nI o) + (1 : Int32)) = (nI (o + 1)) from nI_1 o) ?_
  refine va_put (D := (dC, dI)) (ci := 8) (v := .int (nI (o + 1))) (ty := .int) (C := "UpcastStreamsModel") (T := F_M) (N := 29) hx hb hts in_M t_M t_M_ok n_M hown hK hP hD hS 0 rfl rfl 16 (by decide) (hts _ uw_3_147) (fun _ h9 => h9) rfl (by decide +kernel) rfl rfl (Nat.le_of_ble_eq_true rfl) d_M_push_48 (fun H locs hP hD hS => ?_)
  have hP : va_P (dC, dI) vwCl [(mm, .inr (8, [.int mp, .int co, .int (nI n), .ref p1, .ref p2, .ref p3, .ref p4, .ref p5, .int (nI un), .ref p6, .ref p7, .ref p8, .int cm, .ref p9, .ref p10, .ref p11, .int (nI (o + 1)), .ref p12, .ref p13, .ref p14, .ref p15, .ref p16, .ref p17, .ref p18, .ref p19, .ref p20, .ref p21, .int (nI he), .ref p22])), (p12, .inl (cI, 8, .inl (upd O1 o t))), (p13, .inl (cI, 8, .inl (upd O2 o f))), (p14, .inl (cI, 8, .inl (upd O3 o a))), (p15, .inl (cI, 8, .inl (upd O4 o b)))] H := hP
  have hD : va_D zA [(mm, .inr (8, [.int mp, .int co, .int (nI n), .ref p1, .ref p2, .ref p3, .ref p4, .ref p5, .int (nI un), .ref p6, .ref p7, .ref p8, .int cm, .ref p9, .ref p10, .ref p11, .int (nI (o + 1)), .ref p12, .ref p13, .ref p14, .ref p15, .ref p16, .ref p17, .ref p18, .ref p19, .ref p20, .ref p21, .int (nI he), .ref p22])), (p12, .inl (cI, 8, .inl (upd O1 o t))), (p13, .inl (cI, 8, .inl (upd O2 o f))), (p14, .inl (cI, 8, .inl (upd O3 o a))), (p15, .inl (cI, 8, .inl (upd O4 o b)))] := hD
  exact us_vret hQ (by decide) (by decide) hx hb hr hlk hK hS () rfl (by simp) hP hD d_M_push_51

set_option maxHeartbeats 4000000 in
set_option maxRecDepth 100000 in
theorem m_split (zl : Launch) (dC : Nat → ClassId) (dI : Nat → Nat → Nat) (cI cL cS cR : ClassId) (mm : Nat) (p1 : Nat) (p2 : Nat) (p3 : Nat) (p4 : Nat) (p5 : Nat) (p6 : Nat) (p7 : Nat) (p8 : Nat) (p9 : Nat) (p10 : Nat) (p11 : Nat) (p12 : Nat) (p13 : Nat) (p14 : Nat) (p15 : Nat) (p16 : Nat) (p17 : Nat) (p18 : Nat) (p19 : Nat) (p20 : Nat) (p21 : Nat) (p22 : Nat) (mp : Int32) (co : Int32) (cm : Int32) (n : Nat) (un : Nat) (he : Nat) (O1 : Nat → Int32) (O2 : Nat → Int32) (O3 : Nat → Int32) (O4 : Nat → Int32) (t : Int32) (f : Int32) (a : Int32) (b : Int32) (o : Nat) (ho : o < 7) : us_Met (S := Unit) zl y_M_split w_M_split ({ frames := 1, cells := 0, slots := 0, locals := 24 }) (dC, dI) vwCl (us_ty cI cL cS cR) [.ref mm, .int t, .int f, .int a, .int b] [(mm, .inr (8, [.int mp, .int co, .int (nI n), .ref p1, .ref p2, .ref p3, .ref p4, .ref p5, .int (nI un), .ref p6, .ref p7, .ref p8, .int cm, .ref p9, .ref p10, .ref p11, .int (nI o), .ref p12, .ref p13, .ref p14, .ref p15, .ref p16, .ref p17, .ref p18, .ref p19, .ref p20, .ref p21, .int (nI he), .ref p22])), (p12, .inl (cI, 8, .inl O1)), (p13, .inl (cI, 8, .inl O2)), (p14, .inl (cI, 8, .inl O3)), (p15, .inl (cI, 8, .inl O4))] (fun _ => none) (fun u => True) (fun u => [(mm, .inr (8, [.int mp, .int co, .int (nI n), .ref p1, .ref p2, .ref p3, .ref p4, .ref p5, .int (nI un), .ref p6, .ref p7, .ref p8, .int cm, .ref p9, .ref p10, .ref p11, .int (nI (o + 1 + 1)), .ref p12, .ref p13, .ref p14, .ref p15, .ref p16, .ref p17, .ref p18, .ref p19, .ref p20, .ref p21, .int (nI he), .ref p22])), (p12, .inl (cI, 8, .inl (upd (upd O1 o t) (o + 1) t))), (p13, .inl (cI, 8, .inl (upd (upd O2 o f) (o + 1) f))), (p14, .inl (cI, 8, .inl (upd (upd O3 o (a - a >>> 1)) (o + 1) (a >>> 1)))), (p15, .inl (cI, 8, .inl (upd (upd O4 o b) (o + 1) b)))]) := by
  refine us_ofW (cc := b_M_split) (maxL := 6) (ret := none) (by decide) (Nat.le_of_ble_eq_true rfl) ?_
  intro zp ze zs zm args below meth zc zA ls zQ hQ hx hb hr hml hts hown hlk hin hl hK hP hD hS hA
  have hown : zs.vm.findClass "UpcastStreamsModel" = some zm.cls := hown
  have hl : lv_has ls 6 [(0, .ref mm), (1, .int t), (2, .int f), (3, .int a), (4, .int b)] := hl
  obtain ⟨H, hH⟩ : ∃ H, H = zs.heap := ⟨_, rfl⟩
  rw [← hH] at hP ⊢
  have hS : va_S zA zs.heap H [] := hH ▸ hS
  generalize ([] : List Loc) = locs at hS ⊢
  refine lv_iload_n hx hb d_M_split_0 rfl (lv_at hl 3 rfl) ?_
  refine lv_iconst (v := (1 : Int32)) hx hb d_M_split_1 (by decide) ?_
  refine lv_ishr hx hb d_M_split_2 ?_
  refine us_top (show (a >>> ((1 : Int32) &&& 31)) = (a >>> 1) from us_sh1 a) ?_
  refine lv_istore (lv' := [(5, .int (a >>> 1)), (0, .ref mm), (1, .int t), (2, .int f), (3, .int a), (4, .int b)]) hx hb d_M_split_3 hl (by decide) rfl (fun ls hl => ?_)
  refine lv_aload_n hx hb d_M_split_5 rfl (lv_at hl 1 rfl) ?_
  refine lv_iload_n hx hb d_M_split_6 rfl (lv_at hl 2 rfl) ?_
  refine lv_iload_n hx hb d_M_split_7 rfl (lv_at hl 3 rfl) ?_
  refine lv_iload_n hx hb d_M_split_8 rfl (lv_at hl 4 rfl) ?_
  refine lv_iload hx hb d_M_split_9 (lv_at hl 0 rfl) ?_
  refine lv_isub hx hb d_M_split_11 ?_
  refine lv_iload hx hb d_M_split_12 (lv_at hl 5 rfl) ?_
  refine us_cV (q0 := 0) (As := [.int t, .int f, .int (a - (a >>> 1)), .int b]) (rest := []) (N2 := 5) (fun u => [(mm, .inr (8, [.int mp, .int co, .int (nI n), .ref p1, .ref p2, .ref p3, .ref p4, .ref p5, .int (nI un), .ref p6, .ref p7, .ref p8, .int cm, .ref p9, .ref p10, .ref p11, .int (nI (o + 1)), .ref p12, .ref p13, .ref p14, .ref p15, .ref p16, .ref p17, .ref p18, .ref p19, .ref p20, .ref p21, .int (nI he), .ref p22])), (p12, .inl (cI, 8, .inl (upd O1 o t))), (p13, .inl (cI, 8, .inl (upd O2 o f))), (p14, .inl (cI, 8, .inl (upd O3 o (a - (a >>> 1))))), (p15, .inl (cI, 8, .inl (upd O4 o b)))]) ⟨hx, hb, hml, hown, hts⟩ (m_push zl dC dI cI cL cS cR mm p1 p2 p3 p4 p5 p6 p7 p8 p9 p10 p11 p12 p13 p14 p15 p16 p17 p18 p19 p20 p21 p22 mp co cm n un he O1 O2 O3 O4 t f (a - (a >>> 1)) b o (by omega)) (cwV 4 hts (us_gV uw_4_18 uw_4_20 uw_p_16 uw_1_10 k_M_push) rfl rfl rfl h_M_push ⟨by decide, by decide⟩) hK hP hD hS hA [0, 1, 2, 3, 4] [0, 1, 2, 3, 4] [] rfl (by decide) (fun _ => rfl) [] (fun _ => rfl) rfl (fun _ => rfl) (by decide) (by decide) rfl rfl rfl hl.1 rfl (Nat.le_of_ble_eq_true rfl) d_M_split_14 ⟨by decide, by decide⟩ (fun u H locs w14 hP hD hS => ?_)
  have hP : va_P (dC, dI) vwCl [(mm, .inr (8, [.int mp, .int co, .int (nI n), .ref p1, .ref p2, .ref p3, .ref p4, .ref p5, .int (nI un), .ref p6, .ref p7, .ref p8, .int cm, .ref p9, .ref p10, .ref p11, .int (nI (o + 1)), .ref p12, .ref p13, .ref p14, .ref p15, .ref p16, .ref p17, .ref p18, .ref p19, .ref p20, .ref p21, .int (nI he), .ref p22])), (p12, .inl (cI, 8, .inl (upd O1 o t))), (p13, .inl (cI, 8, .inl (upd O2 o f))), (p14, .inl (cI, 8, .inl (upd O3 o (a - (a >>> 1))))), (p15, .inl (cI, 8, .inl (upd O4 o b)))] H := hP
  have hD : va_D zA [(mm, .inr (8, [.int mp, .int co, .int (nI n), .ref p1, .ref p2, .ref p3, .ref p4, .ref p5, .int (nI un), .ref p6, .ref p7, .ref p8, .int cm, .ref p9, .ref p10, .ref p11, .int (nI (o + 1)), .ref p12, .ref p13, .ref p14, .ref p15, .ref p16, .ref p17, .ref p18, .ref p19, .ref p20, .ref p21, .int (nI he), .ref p22])), (p12, .inl (cI, 8, .inl (upd O1 o t))), (p13, .inl (cI, 8, .inl (upd O2 o f))), (p14, .inl (cI, 8, .inl (upd O3 o (a - (a >>> 1))))), (p15, .inl (cI, 8, .inl (upd O4 o b)))] := hD
  try dsimp only at w14
  refine W.eq (g2 := F0 zm 17 ls []) rfl ?_
  refine lv_aload_n hx hb d_M_split_17 rfl (lv_at hl 1 rfl) ?_
  refine lv_iload_n hx hb d_M_split_18 rfl (lv_at hl 2 rfl) ?_
  refine lv_iload_n hx hb d_M_split_19 rfl (lv_at hl 3 rfl) ?_
  refine lv_iload hx hb d_M_split_20 (lv_at hl 0 rfl) ?_
  refine lv_iload hx hb d_M_split_22 (lv_at hl 5 rfl) ?_
  refine us_cV (q0 := 0) (As := [.int t, .int f, .int (a >>> 1), .int b]) (rest := []) (N2 := 5) (fun u => [(mm, .inr (8, [.int mp, .int co, .int (nI n), .ref p1, .ref p2, .ref p3, .ref p4, .ref p5, .int (nI un), .ref p6, .ref p7, .ref p8, .int cm, .ref p9, .ref p10, .ref p11, .int (nI ((o + 1) + 1)), .ref p12, .ref p13, .ref p14, .ref p15, .ref p16, .ref p17, .ref p18, .ref p19, .ref p20, .ref p21, .int (nI he), .ref p22])), (p12, .inl (cI, 8, .inl (upd (upd O1 o t) (o + 1) t))), (p13, .inl (cI, 8, .inl (upd (upd O2 o f) (o + 1) f))), (p14, .inl (cI, 8, .inl (upd (upd O3 o (a - (a >>> 1))) (o + 1) (a >>> 1)))), (p15, .inl (cI, 8, .inl (upd (upd O4 o b) (o + 1) b)))]) ⟨hx, hb, hml, hown, hts⟩ (m_push zl dC dI cI cL cS cR mm p1 p2 p3 p4 p5 p6 p7 p8 p9 p10 p11 p12 p13 p14 p15 p16 p17 p18 p19 p20 p21 p22 mp co cm n un he (upd O1 o t) (upd O2 o f) (upd O3 o (a - (a >>> 1))) (upd O4 o b) t f (a >>> 1) b (o + 1) (by omega)) (cwV 4 hts (us_gV uw_4_18 uw_4_20 uw_p_16 uw_1_10 k_M_push) rfl rfl rfl h_M_push ⟨by decide, by decide⟩) hK hP hD hS hA [0, 1, 2, 3, 4] [0, 1, 2, 3, 4] [] rfl (by decide) (fun _ => rfl) [] (fun _ => rfl) rfl (fun _ => rfl) (by decide) (by decide) rfl rfl rfl hl.1 rfl (Nat.le_of_ble_eq_true rfl) d_M_split_24 ⟨by decide, by decide⟩ (fun u H locs w24 hP hD hS => ?_)
  have hP : va_P (dC, dI) vwCl [(mm, .inr (8, [.int mp, .int co, .int (nI n), .ref p1, .ref p2, .ref p3, .ref p4, .ref p5, .int (nI un), .ref p6, .ref p7, .ref p8, .int cm, .ref p9, .ref p10, .ref p11, .int (nI ((o + 1) + 1)), .ref p12, .ref p13, .ref p14, .ref p15, .ref p16, .ref p17, .ref p18, .ref p19, .ref p20, .ref p21, .int (nI he), .ref p22])), (p12, .inl (cI, 8, .inl (upd (upd O1 o t) (o + 1) t))), (p13, .inl (cI, 8, .inl (upd (upd O2 o f) (o + 1) f))), (p14, .inl (cI, 8, .inl (upd (upd O3 o (a - (a >>> 1))) (o + 1) (a >>> 1)))), (p15, .inl (cI, 8, .inl (upd (upd O4 o b) (o + 1) b)))] H := hP
  have hD : va_D zA [(mm, .inr (8, [.int mp, .int co, .int (nI n), .ref p1, .ref p2, .ref p3, .ref p4, .ref p5, .int (nI un), .ref p6, .ref p7, .ref p8, .int cm, .ref p9, .ref p10, .ref p11, .int (nI ((o + 1) + 1)), .ref p12, .ref p13, .ref p14, .ref p15, .ref p16, .ref p17, .ref p18, .ref p19, .ref p20, .ref p21, .int (nI he), .ref p22])), (p12, .inl (cI, 8, .inl (upd (upd O1 o t) (o + 1) t))), (p13, .inl (cI, 8, .inl (upd (upd O2 o f) (o + 1) f))), (p14, .inl (cI, 8, .inl (upd (upd O3 o (a - (a >>> 1))) (o + 1) (a >>> 1)))), (p15, .inl (cI, 8, .inl (upd (upd O4 o b) (o + 1) b)))] := hD
  try dsimp only at w24
  refine W.eq (g2 := F0 zm 27 ls []) rfl ?_
  exact us_vret hQ (by decide) (by decide) hx hb hr hlk hK hS () rfl (by simp) hP hD d_M_split_27

set_option maxHeartbeats 4000000 in
set_option maxRecDepth 100000 in
theorem m_oneUp (zl : Launch) (dC : Nat → ClassId) (dI : Nat → Nat → Nat) (cI cL cS cR : ClassId) (mm : Nat) (p1 : Nat) (p2 : Nat) (p3 : Nat) (p4 : Nat) (p5 : Nat) (p6 : Nat) (p7 : Nat) (p8 : Nat) (p9 : Nat) (p10 : Nat) (p11 : Nat) (p12 : Nat) (p13 : Nat) (p14 : Nat) (p15 : Nat) (p16 : Nat) (p17 : Nat) (p18 : Nat) (p19 : Nat) (p20 : Nat) (p21 : Nat) (p22 : Nat) (mp : Int32) (co : Int32) (cm : Int32) (n : Nat) (un : Nat) (he : Nat) (O1 : Nat → Int32) (O2 : Nat → Int32) (O3 : Nat → Int32) (O4 : Nat → Int32) (KD : Nat → Int32) (KS : Nat → Int32) (t : Nat) (f : Nat) (a : Int32) (b : Int32) (o : Nat) (l : List us_Ev) (ht : t < 6) (h1 : 1 ≤ f) (h2 : f < 3) (hR : us_rok KD KS) (hrow : us_row O1 O2 O3 O4 l) (hn : o = l.length) (ho : o < 7) : us_Met (S := (Nat → Int32) × (Nat → Int32) × (Nat → Int32) × (Nat → Int32) × Nat) zl y_M_oneUp w_M_oneUp ({ frames := 2, cells := 0, slots := 0, locals := 49 }) (dC, dI) vwCl (us_ty cI cL cS cR) [.ref mm, .int (nI t), .int (nI f), .int a, .int b] [(mm, .inr (8, [.int mp, .int co, .int (nI n), .ref p1, .ref p2, .ref p3, .ref p4, .ref p5, .int (nI un), .ref p6, .ref p7, .ref p8, .int cm, .ref p9, .ref p10, .ref p11, .int (nI o), .ref p12, .ref p13, .ref p14, .ref p15, .ref p16, .ref p17, .ref p18, .ref p19, .ref p20, .ref p21, .int (nI he), .ref p22])), (p12, .inl (cI, 8, .inl O1)), (p13, .inl (cI, 8, .inl O2)), (p14, .inl (cI, 8, .inl O3)), (p15, .inl (cI, 8, .inl O4)), (p6, .inl (cI, 12, .inl KD)), (p7, .inl (cI, 12, .inl KS))] (fun _ => none) (fun u => us_row u.1 u.2.1 u.2.2.1 u.2.2.2.1 (l ++ (us_up1 KD KS (t, f, a, b)).reverse) ∧ u.2.2.2.2 = o + (us_up1 KD KS (t, f, a, b)).reverse.length) (fun u => [(mm, .inr (8, [.int mp, .int co, .int (nI n), .ref p1, .ref p2, .ref p3, .ref p4, .ref p5, .int (nI un), .ref p6, .ref p7, .ref p8, .int cm, .ref p9, .ref p10, .ref p11, .int (nI u.2.2.2.2), .ref p12, .ref p13, .ref p14, .ref p15, .ref p16, .ref p17, .ref p18, .ref p19, .ref p20, .ref p21, .int (nI he), .ref p22])), (p12, .inl (cI, 8, .inl u.1)), (p13, .inl (cI, 8, .inl u.2.1)), (p14, .inl (cI, 8, .inl u.2.2.1)), (p15, .inl (cI, 8, .inl u.2.2.2.1)), (p6, .inl (cI, 12, .inl KD)), (p7, .inl (cI, 12, .inl KS))]) := by
  refine us_ofW (cc := b_M_oneUp) (maxL := 7) (ret := none) (by decide) (Nat.le_of_ble_eq_true rfl) ?_
  intro zp ze zs zm args below meth zc zA ls zQ hQ hx hb hr hml hts hown hlk hin hl hK hP hD hS hA
  have hown : zs.vm.findClass "UpcastStreamsModel" = some zm.cls := hown
  have hl : lv_has ls 7 [(0, .ref mm), (1, .int (nI t)), (2, .int (nI f)), (3, .int a), (4, .int b)] := hl
  obtain ⟨H, hH⟩ : ∃ H, H = zs.heap := ⟨_, rfl⟩
  rw [← hH] at hP ⊢
  have hS : va_S zA zs.heap H [] := hH ▸ hS
  generalize ([] : List Loc) = locs at hS ⊢
  refine lv_iconst (v := (2 : Int32)) hx hb d_M_oneUp_0 (by decide) ?_
  refine lv_iload_n hx hb d_M_oneUp_1 rfl (lv_at hl 1 rfl) ?_
  refine lv_imul hx hb d_M_oneUp_2 ?_
  refine lv_iload_n hx hb d_M_oneUp_3 rfl (lv_at hl 2 rfl) ?_
  refine lv_iadd hx hb d_M_oneUp_4 ?_
  refine lv_iconst (v := (1 : Int32)) hx hb d_M_oneUp_5 (by decide) ?_
  refine lv_isub hx hb d_M_oneUp_6 ?_
  refine us_top (show ((((2 : Int32) * (nI t)) + (nI f)) - (1 : Int32)) = (nI (2 * t + f - 1)) from us_rule2 ht h1 (by omega)) ?_
  refine lv_istore (lv' := [(5, .int (nI (2 * t + f - 1))), (0, .ref mm), (1, .int (nI t)), (2, .int (nI f)), (3, .int a), (4, .int b)]) hx hb d_M_oneUp_7 hl (by decide) rfl (fun ls hl => ?_)
  refine lv_aload_n hx hb d_M_oneUp_9 rfl (lv_at hl 1 rfl) ?_
  refine va_get (D := (dC, dI)) (ci := 8) (v := .ref p7) (C := "UpcastStreamsModel") (T := F_M) (N := 29) hx hb hts in_M hown hK hP 0 rfl rfl 10 (by decide) (hts _ uw_3_141) (fun _ h9 => h9) rfl d_M_oneUp_10 ?_
  refine lv_iload hx hb d_M_oneUp_13 (lv_at hl 0 rfl) ?_
  refine us_iald (j := 2 * t + f - 1) hx hb hK hP 6 0 rfl rfl (vp_in_nI (by omega) (by omega)) (nI_clamp (by omega)) d_M_oneUp_15 ?_
  refine lv_istore (lv' := [(6, .int (KS (2 * t + f - 1))), (5, .int (nI (2 * t + f - 1))), (0, .ref mm), (1, .int (nI t)), (2, .int (nI f)), (3, .int a), (4, .int b)]) hx hb d_M_oneUp_16 hl (by decide) rfl (fun ls hl => ?_)
  refine lv_aload_n hx hb d_M_oneUp_18 rfl (lv_at hl 2 rfl) ?_
  refine va_get (D := (dC, dI)) (ci := 8) (v := .ref p6) (C := "UpcastStreamsModel") (T := F_M) (N := 29) hx hb hts in_M hown hK hP 0 rfl rfl 9 (by decide) (hts _ uw_3_140) (fun _ h9 => h9) rfl d_M_oneUp_19 ?_
  refine lv_iload hx hb d_M_oneUp_22 (lv_at hl 1 rfl) ?_
  refine us_iald (j := 2 * t + f - 1) hx hb hK hP 5 0 rfl rfl (vp_in_nI (by omega) (by omega)) (nI_clamp (by omega)) d_M_oneUp_24 ?_
  by_cases kk0 : KD (2 * t + f - 1) = (0 : Int32)
  · refine us_top (show KD (2 * t + f - 1) = (0 : Int32) from kk0) ?_
    refine lv_tableIn (off := (39 : Int)) (tgt := 64) hx hb d_M_oneUp_25 (by decide) (by decide) (by decide) (by decide) ?_
    have e1 : us_up1 KD KS (t, f, a, b) = [(t, f + 1, a, b)] := by simp [us_up1, kk0]
    refine lv_aload_n hx hb d_M_oneUp_64 rfl (lv_at hl 2 rfl) ?_
    refine lv_iload_n hx hb d_M_oneUp_65 rfl (lv_at hl 3 rfl) ?_
    refine lv_iload_n hx hb d_M_oneUp_66 rfl (lv_at hl 4 rfl) ?_
    refine lv_iconst (v := (1 : Int32)) hx hb d_M_oneUp_67 (by decide) ?_
    refine lv_iadd hx hb d_M_oneUp_68 ?_
    refine us_top (show ((nI f) + (1 : Int32)) = (nI (f + 1)) from nI_1 f) ?_
    refine lv_iload_n hx hb d_M_oneUp_69 rfl (lv_at hl 5 rfl) ?_
    refine lv_iload hx hb d_M_oneUp_70 (lv_at hl 6 rfl) ?_
    refine us_cV (q0 := 0) (As := [.int (nI t), .int (nI (f + 1)), .int a, .int b]) (rest := []) (N2 := 7) (fun u => [(mm, .inr (8, [.int mp, .int co, .int (nI n), .ref p1, .ref p2, .ref p3, .ref p4, .ref p5, .int (nI un), .ref p6, .ref p7, .ref p8, .int cm, .ref p9, .ref p10, .ref p11, .int (nI (o + 1)), .ref p12, .ref p13, .ref p14, .ref p15, .ref p16, .ref p17, .ref p18, .ref p19, .ref p20, .ref p21, .int (nI he), .ref p22])), (p12, .inl (cI, 8, .inl (upd O1 o (nI t)))), (p13, .inl (cI, 8, .inl (upd O2 o (nI (f + 1))))), (p14, .inl (cI, 8, .inl (upd O3 o a))), (p15, .inl (cI, 8, .inl (upd O4 o b))), (p6, .inl (cI, 12, .inl KD)), (p7, .inl (cI, 12, .inl KS))]) ⟨hx, hb, hml, hown, hts⟩ (m_push zl dC dI cI cL cS cR mm p1 p2 p3 p4 p5 p6 p7 p8 p9 p10 p11 p12 p13 p14 p15 p16 p17 p18 p19 p20 p21 p22 mp co cm n un he O1 O2 O3 O4 (nI t) (nI (f + 1)) a b o (by omega)) (cwV 4 hts (us_gV uw_4_18 uw_4_20 uw_p_16 uw_1_10 k_M_push) rfl rfl rfl h_M_push ⟨by decide, by decide⟩) hK hP hD hS hA [0, 1, 2, 3, 4] [0, 1, 2, 3, 4] [5, 6] rfl (by decide) (fun _ => rfl) [(p6, .inl (cI, 12, .inl KD)), (p7, .inl (cI, 12, .inl KS))] (fun _ => rfl) rfl (fun _ => rfl) (by decide) (by decide) rfl rfl rfl hl.1 rfl (Nat.le_of_ble_eq_true rfl) d_M_oneUp_72 ⟨by decide, by decide⟩ (fun u H locs w72 hP hD hS => ?_)
    have hP : va_P (dC, dI) vwCl [(mm, .inr (8, [.int mp, .int co, .int (nI n), .ref p1, .ref p2, .ref p3, .ref p4, .ref p5, .int (nI un), .ref p6, .ref p7, .ref p8, .int cm, .ref p9, .ref p10, .ref p11, .int (nI (o + 1)), .ref p12, .ref p13, .ref p14, .ref p15, .ref p16, .ref p17, .ref p18, .ref p19, .ref p20, .ref p21, .int (nI he), .ref p22])), (p12, .inl (cI, 8, .inl (upd O1 o (nI t)))), (p13, .inl (cI, 8, .inl (upd O2 o (nI (f + 1))))), (p14, .inl (cI, 8, .inl (upd O3 o a))), (p15, .inl (cI, 8, .inl (upd O4 o b))), (p6, .inl (cI, 12, .inl KD)), (p7, .inl (cI, 12, .inl KS))] H := hP
    have hD : va_D zA [(mm, .inr (8, [.int mp, .int co, .int (nI n), .ref p1, .ref p2, .ref p3, .ref p4, .ref p5, .int (nI un), .ref p6, .ref p7, .ref p8, .int cm, .ref p9, .ref p10, .ref p11, .int (nI (o + 1)), .ref p12, .ref p13, .ref p14, .ref p15, .ref p16, .ref p17, .ref p18, .ref p19, .ref p20, .ref p21, .int (nI he), .ref p22])), (p12, .inl (cI, 8, .inl (upd O1 o (nI t)))), (p13, .inl (cI, 8, .inl (upd O2 o (nI (f + 1))))), (p14, .inl (cI, 8, .inl (upd O3 o a))), (p15, .inl (cI, 8, .inl (upd O4 o b))), (p6, .inl (cI, 12, .inl KD)), (p7, .inl (cI, 12, .inl KS))] := hD
    try dsimp only at w72
    refine W.eq (g2 := F0 zm 75 ls []) rfl ?_
    refine lv_goto (tgt := 152) hx hb d_M_oneUp_75 (by decide) ?_
    exact us_vret hQ (by decide) (by decide) hx hb hr hlk hK hS ((upd O1 o (nI t)), (upd O2 o (nI (f + 1))), (upd O3 o a), (upd O4 o b), (o + 1)) rfl (⟨by rw [e1]; exact us_row_put hrow _ hn, by rw [e1]; rfl⟩) hP hD d_M_oneUp_152
  by_cases kk1 : KD (2 * t + f - 1) = (1 : Int32)
  · refine us_top (show KD (2 * t + f - 1) = (1 : Int32) from kk1) ?_
    refine lv_tableIn (off := (53 : Int)) (tgt := 78) hx hb d_M_oneUp_25 (by decide) (by decide) (by decide) (by decide) ?_
    have e1 : us_up1 KD KS (t, f, a, b) = [(t, f + 1, b, a)] := by simp [us_up1, kk1]
    refine lv_aload_n hx hb d_M_oneUp_78 rfl (lv_at hl 2 rfl) ?_
    refine lv_iload_n hx hb d_M_oneUp_79 rfl (lv_at hl 3 rfl) ?_
    refine lv_iload_n hx hb d_M_oneUp_80 rfl (lv_at hl 4 rfl) ?_
    refine lv_iconst (v := (1 : Int32)) hx hb d_M_oneUp_81 (by decide) ?_
    refine lv_iadd hx hb d_M_oneUp_82 ?_
    refine us_top (show ((nI f) + (1 : Int32)) = (nI (f + 1)) from nI_1 f) ?_
    refine lv_iload hx hb d_M_oneUp_83 (lv_at hl 6 rfl) ?_
    refine lv_iload_n hx hb d_M_oneUp_85 rfl (lv_at hl 5 rfl) ?_
    refine us_cV (q0 := 0) (As := [.int (nI t), .int (nI (f + 1)), .int b, .int a]) (rest := []) (N2 := 7) (fun u => [(mm, .inr (8, [.int mp, .int co, .int (nI n), .ref p1, .ref p2, .ref p3, .ref p4, .ref p5, .int (nI un), .ref p6, .ref p7, .ref p8, .int cm, .ref p9, .ref p10, .ref p11, .int (nI (o + 1)), .ref p12, .ref p13, .ref p14, .ref p15, .ref p16, .ref p17, .ref p18, .ref p19, .ref p20, .ref p21, .int (nI he), .ref p22])), (p12, .inl (cI, 8, .inl (upd O1 o (nI t)))), (p13, .inl (cI, 8, .inl (upd O2 o (nI (f + 1))))), (p14, .inl (cI, 8, .inl (upd O3 o b))), (p15, .inl (cI, 8, .inl (upd O4 o a))), (p6, .inl (cI, 12, .inl KD)), (p7, .inl (cI, 12, .inl KS))]) ⟨hx, hb, hml, hown, hts⟩ (m_push zl dC dI cI cL cS cR mm p1 p2 p3 p4 p5 p6 p7 p8 p9 p10 p11 p12 p13 p14 p15 p16 p17 p18 p19 p20 p21 p22 mp co cm n un he O1 O2 O3 O4 (nI t) (nI (f + 1)) b a o (by omega)) (cwV 4 hts (us_gV uw_4_18 uw_4_20 uw_p_16 uw_1_10 k_M_push) rfl rfl rfl h_M_push ⟨by decide, by decide⟩) hK hP hD hS hA [0, 1, 2, 3, 4] [0, 1, 2, 3, 4] [5, 6] rfl (by decide) (fun _ => rfl) [(p6, .inl (cI, 12, .inl KD)), (p7, .inl (cI, 12, .inl KS))] (fun _ => rfl) rfl (fun _ => rfl) (by decide) (by decide) rfl rfl rfl hl.1 rfl (Nat.le_of_ble_eq_true rfl) d_M_oneUp_86 ⟨by decide, by decide⟩ (fun u H locs w86 hP hD hS => ?_)
    have hP : va_P (dC, dI) vwCl [(mm, .inr (8, [.int mp, .int co, .int (nI n), .ref p1, .ref p2, .ref p3, .ref p4, .ref p5, .int (nI un), .ref p6, .ref p7, .ref p8, .int cm, .ref p9, .ref p10, .ref p11, .int (nI (o + 1)), .ref p12, .ref p13, .ref p14, .ref p15, .ref p16, .ref p17, .ref p18, .ref p19, .ref p20, .ref p21, .int (nI he), .ref p22])), (p12, .inl (cI, 8, .inl (upd O1 o (nI t)))), (p13, .inl (cI, 8, .inl (upd O2 o (nI (f + 1))))), (p14, .inl (cI, 8, .inl (upd O3 o b))), (p15, .inl (cI, 8, .inl (upd O4 o a))), (p6, .inl (cI, 12, .inl KD)), (p7, .inl (cI, 12, .inl KS))] H := hP
    have hD : va_D zA [(mm, .inr (8, [.int mp, .int co, .int (nI n), .ref p1, .ref p2, .ref p3, .ref p4, .ref p5, .int (nI un), .ref p6, .ref p7, .ref p8, .int cm, .ref p9, .ref p10, .ref p11, .int (nI (o + 1)), .ref p12, .ref p13, .ref p14, .ref p15, .ref p16, .ref p17, .ref p18, .ref p19, .ref p20, .ref p21, .int (nI he), .ref p22])), (p12, .inl (cI, 8, .inl (upd O1 o (nI t)))), (p13, .inl (cI, 8, .inl (upd O2 o (nI (f + 1))))), (p14, .inl (cI, 8, .inl (upd O3 o b))), (p15, .inl (cI, 8, .inl (upd O4 o a))), (p6, .inl (cI, 12, .inl KD)), (p7, .inl (cI, 12, .inl KS))] := hD
    try dsimp only at w86
    refine W.eq (g2 := F0 zm 89 ls []) rfl ?_
    refine lv_goto (tgt := 152) hx hb d_M_oneUp_89 (by decide) ?_
    exact us_vret hQ (by decide) (by decide) hx hb hr hlk hK hS ((upd O1 o (nI t)), (upd O2 o (nI (f + 1))), (upd O3 o b), (upd O4 o a), (o + 1)) rfl (⟨by rw [e1]; exact us_row_put hrow _ hn, by rw [e1]; rfl⟩) hP hD d_M_oneUp_152
  by_cases kk2 : KD (2 * t + f - 1) = (2 : Int32)
  · refine us_top (show KD (2 * t + f - 1) = (2 : Int32) from kk2) ?_
    refine lv_tableIn (off := (67 : Int)) (tgt := 92) hx hb d_M_oneUp_25 (by decide) (by decide) (by decide) (by decide) ?_
    have e1 : us_up1 KD KS (t, f, a, b) = [(t, f + 1, a * KS (2 * t + f - 1), b)] := by simp [us_up1, kk2]
    refine lv_aload_n hx hb d_M_oneUp_92 rfl (lv_at hl 2 rfl) ?_
    refine lv_iload_n hx hb d_M_oneUp_93 rfl (lv_at hl 3 rfl) ?_
    refine lv_iload_n hx hb d_M_oneUp_94 rfl (lv_at hl 4 rfl) ?_
    refine lv_iconst (v := (1 : Int32)) hx hb d_M_oneUp_95 (by decide) ?_
    refine lv_iadd hx hb d_M_oneUp_96 ?_
    refine us_top (show ((nI f) + (1 : Int32)) = (nI (f + 1)) from nI_1 f) ?_
    refine lv_iload_n hx hb d_M_oneUp_97 rfl (lv_at hl 5 rfl) ?_
    refine lv_iload hx hb d_M_oneUp_98 (lv_at hl 0 rfl) ?_
    refine lv_imul hx hb d_M_oneUp_100 ?_
    refine lv_iload hx hb d_M_oneUp_101 (lv_at hl 6 rfl) ?_
    refine us_cV (q0 := 0) (As := [.int (nI t), .int (nI (f + 1)), .int (a * (KS (2 * t + f - 1))), .int b]) (rest := []) (N2 := 7) (fun u => [(mm, .inr (8, [.int mp, .int co, .int (nI n), .ref p1, .ref p2, .ref p3, .ref p4, .ref p5, .int (nI un), .ref p6, .ref p7, .ref p8, .int cm, .ref p9, .ref p10, .ref p11, .int (nI (o + 1)), .ref p12, .ref p13, .ref p14, .ref p15, .ref p16, .ref p17, .ref p18, .ref p19, .ref p20, .ref p21, .int (nI he), .ref p22])), (p12, .inl (cI, 8, .inl (upd O1 o (nI t)))), (p13, .inl (cI, 8, .inl (upd O2 o (nI (f + 1))))), (p14, .inl (cI, 8, .inl (upd O3 o (a * (KS (2 * t + f - 1)))))), (p15, .inl (cI, 8, .inl (upd O4 o b))), (p6, .inl (cI, 12, .inl KD)), (p7, .inl (cI, 12, .inl KS))]) ⟨hx, hb, hml, hown, hts⟩ (m_push zl dC dI cI cL cS cR mm p1 p2 p3 p4 p5 p6 p7 p8 p9 p10 p11 p12 p13 p14 p15 p16 p17 p18 p19 p20 p21 p22 mp co cm n un he O1 O2 O3 O4 (nI t) (nI (f + 1)) (a * (KS (2 * t + f - 1))) b o (by omega)) (cwV 4 hts (us_gV uw_4_18 uw_4_20 uw_p_16 uw_1_10 k_M_push) rfl rfl rfl h_M_push ⟨by decide, by decide⟩) hK hP hD hS hA [0, 1, 2, 3, 4] [0, 1, 2, 3, 4] [5, 6] rfl (by decide) (fun _ => rfl) [(p6, .inl (cI, 12, .inl KD)), (p7, .inl (cI, 12, .inl KS))] (fun _ => rfl) rfl (fun _ => rfl) (by decide) (by decide) rfl rfl rfl hl.1 rfl (Nat.le_of_ble_eq_true rfl) d_M_oneUp_103 ⟨by decide, by decide⟩ (fun u H locs w103 hP hD hS => ?_)
    have hP : va_P (dC, dI) vwCl [(mm, .inr (8, [.int mp, .int co, .int (nI n), .ref p1, .ref p2, .ref p3, .ref p4, .ref p5, .int (nI un), .ref p6, .ref p7, .ref p8, .int cm, .ref p9, .ref p10, .ref p11, .int (nI (o + 1)), .ref p12, .ref p13, .ref p14, .ref p15, .ref p16, .ref p17, .ref p18, .ref p19, .ref p20, .ref p21, .int (nI he), .ref p22])), (p12, .inl (cI, 8, .inl (upd O1 o (nI t)))), (p13, .inl (cI, 8, .inl (upd O2 o (nI (f + 1))))), (p14, .inl (cI, 8, .inl (upd O3 o (a * (KS (2 * t + f - 1)))))), (p15, .inl (cI, 8, .inl (upd O4 o b))), (p6, .inl (cI, 12, .inl KD)), (p7, .inl (cI, 12, .inl KS))] H := hP
    have hD : va_D zA [(mm, .inr (8, [.int mp, .int co, .int (nI n), .ref p1, .ref p2, .ref p3, .ref p4, .ref p5, .int (nI un), .ref p6, .ref p7, .ref p8, .int cm, .ref p9, .ref p10, .ref p11, .int (nI (o + 1)), .ref p12, .ref p13, .ref p14, .ref p15, .ref p16, .ref p17, .ref p18, .ref p19, .ref p20, .ref p21, .int (nI he), .ref p22])), (p12, .inl (cI, 8, .inl (upd O1 o (nI t)))), (p13, .inl (cI, 8, .inl (upd O2 o (nI (f + 1))))), (p14, .inl (cI, 8, .inl (upd O3 o (a * (KS (2 * t + f - 1)))))), (p15, .inl (cI, 8, .inl (upd O4 o b))), (p6, .inl (cI, 12, .inl KD)), (p7, .inl (cI, 12, .inl KS))] := hD
    try dsimp only at w103
    refine W.eq (g2 := F0 zm 106 ls []) rfl ?_
    refine lv_goto (tgt := 152) hx hb d_M_oneUp_106 (by decide) ?_
    exact us_vret hQ (by decide) (by decide) hx hb hr hlk hK hS ((upd O1 o (nI t)), (upd O2 o (nI (f + 1))), (upd O3 o (a * (KS (2 * t + f - 1)))), (upd O4 o b), (o + 1)) rfl (⟨by rw [e1]; exact us_row_put hrow _ hn, by rw [e1]; rfl⟩) hP hD d_M_oneUp_152
  by_cases kk3 : KD (2 * t + f - 1) = (3 : Int32)
  · refine us_top (show KD (2 * t + f - 1) = (3 : Int32) from kk3) ?_
    refine lv_tableIn (off := (84 : Int)) (tgt := 109) hx hb d_M_oneUp_25 (by decide) (by decide) (by decide) (by decide) ?_
    have e1 : us_up1 KD KS (t, f, a, b) = [(t, f + 1, a, KS (2 * t + f - 1))] := by simp [us_up1, kk3]
    refine lv_aload_n hx hb d_M_oneUp_109 rfl (lv_at hl 2 rfl) ?_
    refine lv_iload_n hx hb d_M_oneUp_110 rfl (lv_at hl 3 rfl) ?_
    refine lv_iload_n hx hb d_M_oneUp_111 rfl (lv_at hl 4 rfl) ?_
    refine lv_iconst (v := (1 : Int32)) hx hb d_M_oneUp_112 (by decide) ?_
    refine lv_iadd hx hb d_M_oneUp_113 ?_
    refine us_top (show ((nI f) + (1 : Int32)) = (nI (f + 1)) from nI_1 f) ?_
    refine lv_iload_n hx hb d_M_oneUp_114 rfl (lv_at hl 5 rfl) ?_
    refine lv_iload hx hb d_M_oneUp_115 (lv_at hl 0 rfl) ?_
    refine us_cV (q0 := 0) (As := [.int (nI t), .int (nI (f + 1)), .int a, .int (KS (2 * t + f - 1))]) (rest := []) (N2 := 7) (fun u => [(mm, .inr (8, [.int mp, .int co, .int (nI n), .ref p1, .ref p2, .ref p3, .ref p4, .ref p5, .int (nI un), .ref p6, .ref p7, .ref p8, .int cm, .ref p9, .ref p10, .ref p11, .int (nI (o + 1)), .ref p12, .ref p13, .ref p14, .ref p15, .ref p16, .ref p17, .ref p18, .ref p19, .ref p20, .ref p21, .int (nI he), .ref p22])), (p12, .inl (cI, 8, .inl (upd O1 o (nI t)))), (p13, .inl (cI, 8, .inl (upd O2 o (nI (f + 1))))), (p14, .inl (cI, 8, .inl (upd O3 o a))), (p15, .inl (cI, 8, .inl (upd O4 o (KS (2 * t + f - 1))))), (p6, .inl (cI, 12, .inl KD)), (p7, .inl (cI, 12, .inl KS))]) ⟨hx, hb, hml, hown, hts⟩ (m_push zl dC dI cI cL cS cR mm p1 p2 p3 p4 p5 p6 p7 p8 p9 p10 p11 p12 p13 p14 p15 p16 p17 p18 p19 p20 p21 p22 mp co cm n un he O1 O2 O3 O4 (nI t) (nI (f + 1)) a (KS (2 * t + f - 1)) o (by omega)) (cwV 4 hts (us_gV uw_4_18 uw_4_20 uw_p_16 uw_1_10 k_M_push) rfl rfl rfl h_M_push ⟨by decide, by decide⟩) hK hP hD hS hA [0, 1, 2, 3, 4] [0, 1, 2, 3, 4] [5, 6] rfl (by decide) (fun _ => rfl) [(p6, .inl (cI, 12, .inl KD)), (p7, .inl (cI, 12, .inl KS))] (fun _ => rfl) rfl (fun _ => rfl) (by decide) (by decide) rfl rfl rfl hl.1 rfl (Nat.le_of_ble_eq_true rfl) d_M_oneUp_117 ⟨by decide, by decide⟩ (fun u H locs w117 hP hD hS => ?_)
    have hP : va_P (dC, dI) vwCl [(mm, .inr (8, [.int mp, .int co, .int (nI n), .ref p1, .ref p2, .ref p3, .ref p4, .ref p5, .int (nI un), .ref p6, .ref p7, .ref p8, .int cm, .ref p9, .ref p10, .ref p11, .int (nI (o + 1)), .ref p12, .ref p13, .ref p14, .ref p15, .ref p16, .ref p17, .ref p18, .ref p19, .ref p20, .ref p21, .int (nI he), .ref p22])), (p12, .inl (cI, 8, .inl (upd O1 o (nI t)))), (p13, .inl (cI, 8, .inl (upd O2 o (nI (f + 1))))), (p14, .inl (cI, 8, .inl (upd O3 o a))), (p15, .inl (cI, 8, .inl (upd O4 o (KS (2 * t + f - 1))))), (p6, .inl (cI, 12, .inl KD)), (p7, .inl (cI, 12, .inl KS))] H := hP
    have hD : va_D zA [(mm, .inr (8, [.int mp, .int co, .int (nI n), .ref p1, .ref p2, .ref p3, .ref p4, .ref p5, .int (nI un), .ref p6, .ref p7, .ref p8, .int cm, .ref p9, .ref p10, .ref p11, .int (nI (o + 1)), .ref p12, .ref p13, .ref p14, .ref p15, .ref p16, .ref p17, .ref p18, .ref p19, .ref p20, .ref p21, .int (nI he), .ref p22])), (p12, .inl (cI, 8, .inl (upd O1 o (nI t)))), (p13, .inl (cI, 8, .inl (upd O2 o (nI (f + 1))))), (p14, .inl (cI, 8, .inl (upd O3 o a))), (p15, .inl (cI, 8, .inl (upd O4 o (KS (2 * t + f - 1))))), (p6, .inl (cI, 12, .inl KD)), (p7, .inl (cI, 12, .inl KS))] := hD
    try dsimp only at w117
    refine W.eq (g2 := F0 zm 120 ls []) rfl ?_
    refine lv_goto (tgt := 152) hx hb d_M_oneUp_120 (by decide) ?_
    exact us_vret hQ (by decide) (by decide) hx hb hr hlk hK hS ((upd O1 o (nI t)), (upd O2 o (nI (f + 1))), (upd O3 o a), (upd O4 o (KS (2 * t + f - 1))), (o + 1)) rfl (⟨by rw [e1]; exact us_row_put hrow _ hn, by rw [e1]; rfl⟩) hP hD d_M_oneUp_152
  by_cases kk4 : KD (2 * t + f - 1) = (4 : Int32)
  · refine us_top (show KD (2 * t + f - 1) = (4 : Int32) from kk4) ?_
    refine lv_tableIn (off := (98 : Int)) (tgt := 123) hx hb d_M_oneUp_25 (by decide) (by decide) (by decide) (by decide) ?_
    have e1 : us_up1 KD KS (t, f, a, b) = [(t, f + 1, a >>> 1, b), (t, f + 1, a - a >>> 1, b)] := by simp [us_up1, kk4]
    refine lv_aload_n hx hb d_M_oneUp_123 rfl (lv_at hl 2 rfl) ?_
    refine lv_iload_n hx hb d_M_oneUp_124 rfl (lv_at hl 3 rfl) ?_
    refine lv_iload_n hx hb d_M_oneUp_125 rfl (lv_at hl 4 rfl) ?_
    refine lv_iconst (v := (1 : Int32)) hx hb d_M_oneUp_126 (by decide) ?_
    refine lv_iadd hx hb d_M_oneUp_127 ?_
    refine us_top (show ((nI f) + (1 : Int32)) = (nI (f + 1)) from nI_1 f) ?_
    refine lv_iload_n hx hb d_M_oneUp_128 rfl (lv_at hl 5 rfl) ?_
    refine lv_iload hx hb d_M_oneUp_129 (lv_at hl 6 rfl) ?_
    refine us_cV (q0 := 0) (As := [.int (nI t), .int (nI (f + 1)), .int a, .int b]) (rest := []) (N2 := 7) (fun u => [(mm, .inr (8, [.int mp, .int co, .int (nI n), .ref p1, .ref p2, .ref p3, .ref p4, .ref p5, .int (nI un), .ref p6, .ref p7, .ref p8, .int cm, .ref p9, .ref p10, .ref p11, .int (nI (o + 1 + 1)), .ref p12, .ref p13, .ref p14, .ref p15, .ref p16, .ref p17, .ref p18, .ref p19, .ref p20, .ref p21, .int (nI he), .ref p22])), (p12, .inl (cI, 8, .inl (upd (upd O1 o (nI t)) (o + 1) (nI t)))), (p13, .inl (cI, 8, .inl (upd (upd O2 o (nI (f + 1))) (o + 1) (nI (f + 1))))), (p14, .inl (cI, 8, .inl (upd (upd O3 o (a - a >>> 1)) (o + 1) (a >>> 1)))), (p15, .inl (cI, 8, .inl (upd (upd O4 o b) (o + 1) b))), (p6, .inl (cI, 12, .inl KD)), (p7, .inl (cI, 12, .inl KS))]) ⟨hx, hb, hml, hown, hts⟩ (m_split zl dC dI cI cL cS cR mm p1 p2 p3 p4 p5 p6 p7 p8 p9 p10 p11 p12 p13 p14 p15 p16 p17 p18 p19 p20 p21 p22 mp co cm n un he O1 O2 O3 O4 (nI t) (nI (f + 1)) a b o (by omega)) (cwV 4 hts (us_gV uw_4_26 uw_4_28 uw_p_18 uw_1_10 k_M_split) rfl rfl rfl h_M_split ⟨by decide, by decide⟩) hK hP hD hS hA [0, 1, 2, 3, 4] [0, 1, 2, 3, 4] [5, 6] rfl (by decide) (fun _ => rfl) [(p6, .inl (cI, 12, .inl KD)), (p7, .inl (cI, 12, .inl KS))] (fun _ => rfl) rfl (fun _ => rfl) (by decide) (by decide) rfl rfl rfl hl.1 rfl (Nat.le_of_ble_eq_true rfl) d_M_oneUp_131 ⟨by decide, by decide⟩ (fun u H locs w131 hP hD hS => ?_)
    have hP : va_P (dC, dI) vwCl [(mm, .inr (8, [.int mp, .int co, .int (nI n), .ref p1, .ref p2, .ref p3, .ref p4, .ref p5, .int (nI un), .ref p6, .ref p7, .ref p8, .int cm, .ref p9, .ref p10, .ref p11, .int (nI (o + 1 + 1)), .ref p12, .ref p13, .ref p14, .ref p15, .ref p16, .ref p17, .ref p18, .ref p19, .ref p20, .ref p21, .int (nI he), .ref p22])), (p12, .inl (cI, 8, .inl (upd (upd O1 o (nI t)) (o + 1) (nI t)))), (p13, .inl (cI, 8, .inl (upd (upd O2 o (nI (f + 1))) (o + 1) (nI (f + 1))))), (p14, .inl (cI, 8, .inl (upd (upd O3 o (a - a >>> 1)) (o + 1) (a >>> 1)))), (p15, .inl (cI, 8, .inl (upd (upd O4 o b) (o + 1) b))), (p6, .inl (cI, 12, .inl KD)), (p7, .inl (cI, 12, .inl KS))] H := hP
    have hD : va_D zA [(mm, .inr (8, [.int mp, .int co, .int (nI n), .ref p1, .ref p2, .ref p3, .ref p4, .ref p5, .int (nI un), .ref p6, .ref p7, .ref p8, .int cm, .ref p9, .ref p10, .ref p11, .int (nI (o + 1 + 1)), .ref p12, .ref p13, .ref p14, .ref p15, .ref p16, .ref p17, .ref p18, .ref p19, .ref p20, .ref p21, .int (nI he), .ref p22])), (p12, .inl (cI, 8, .inl (upd (upd O1 o (nI t)) (o + 1) (nI t)))), (p13, .inl (cI, 8, .inl (upd (upd O2 o (nI (f + 1))) (o + 1) (nI (f + 1))))), (p14, .inl (cI, 8, .inl (upd (upd O3 o (a - a >>> 1)) (o + 1) (a >>> 1)))), (p15, .inl (cI, 8, .inl (upd (upd O4 o b) (o + 1) b))), (p6, .inl (cI, 12, .inl KD)), (p7, .inl (cI, 12, .inl KS))] := hD
    try dsimp only at w131
    refine W.eq (g2 := F0 zm 134 ls []) rfl ?_
    refine lv_goto (tgt := 152) hx hb d_M_oneUp_134 (by decide) ?_
    exact us_vret hQ (by decide) (by decide) hx hb hr hlk hK hS ((upd (upd O1 o (nI t)) (o + 1) (nI t)), (upd (upd O2 o (nI (f + 1))) (o + 1) (nI (f + 1))), (upd (upd O3 o (a - a >>> 1)) (o + 1) (a >>> 1)), (upd (upd O4 o b) (o + 1) b), (o + 1 + 1)) rfl (⟨by rw [e1]; have q := us_row_put (us_row_put hrow (t, f + 1, a - a >>> 1, b) hn) (t, f + 1, a >>> 1, b) (n := o + 1) (by simp [hn]); rw [List.append_assoc] at q; exact q, by rw [e1]; rfl⟩) hP hD d_M_oneUp_152
  by_cases kk5 : KD (2 * t + f - 1) = (5 : Int32)
  · refine us_top (show KD (2 * t + f - 1) = (5 : Int32) from kk5) ?_
    refine lv_tableIn (off := (112 : Int)) (tgt := 137) hx hb d_M_oneUp_25 (by decide) (by decide) (by decide) (by decide) ?_
    have e1 : us_up1 KD KS (t, f, a, b) = [((KS (2 * t + f - 1)).toNatClampNeg, f + 1, a, b)] := by simp [us_up1, kk5]
    obtain ⟨k0, hk0, hks⟩ := hR _ (by omega) kk5
    have hkc : nI (KS (2 * t + f - 1)).toNatClampNeg = KS (2 * t + f - 1) := by rw [hks, nI_clamp (by omega)]
    refine lv_aload_n hx hb d_M_oneUp_137 rfl (lv_at hl 2 rfl) ?_
    refine lv_iload hx hb d_M_oneUp_138 (lv_at hl 0 rfl) ?_
    refine lv_iload_n hx hb d_M_oneUp_140 rfl (lv_at hl 4 rfl) ?_
    refine lv_iconst (v := (1 : Int32)) hx hb d_M_oneUp_141 (by decide) ?_
    refine lv_iadd hx hb d_M_oneUp_142 ?_
    refine us_top (show ((nI f) + (1 : Int32)) = (nI (f + 1)) from nI_1 f) ?_
    refine lv_iload_n hx hb d_M_oneUp_143 rfl (lv_at hl 5 rfl) ?_
    refine lv_iload hx hb d_M_oneUp_144 (lv_at hl 6 rfl) ?_
    refine us_cV (q0 := 0) (As := [.int (KS (2 * t + f - 1)), .int (nI (f + 1)), .int a, .int b]) (rest := []) (N2 := 7) (fun u => [(mm, .inr (8, [.int mp, .int co, .int (nI n), .ref p1, .ref p2, .ref p3, .ref p4, .ref p5, .int (nI un), .ref p6, .ref p7, .ref p8, .int cm, .ref p9, .ref p10, .ref p11, .int (nI (o + 1)), .ref p12, .ref p13, .ref p14, .ref p15, .ref p16, .ref p17, .ref p18, .ref p19, .ref p20, .ref p21, .int (nI he), .ref p22])), (p12, .inl (cI, 8, .inl (upd O1 o (KS (2 * t + f - 1))))), (p13, .inl (cI, 8, .inl (upd O2 o (nI (f + 1))))), (p14, .inl (cI, 8, .inl (upd O3 o a))), (p15, .inl (cI, 8, .inl (upd O4 o b))), (p6, .inl (cI, 12, .inl KD)), (p7, .inl (cI, 12, .inl KS))]) ⟨hx, hb, hml, hown, hts⟩ (m_push zl dC dI cI cL cS cR mm p1 p2 p3 p4 p5 p6 p7 p8 p9 p10 p11 p12 p13 p14 p15 p16 p17 p18 p19 p20 p21 p22 mp co cm n un he O1 O2 O3 O4 (KS (2 * t + f - 1)) (nI (f + 1)) a b o (by omega)) (cwV 4 hts (us_gV uw_4_18 uw_4_20 uw_p_16 uw_1_10 k_M_push) rfl rfl rfl h_M_push ⟨by decide, by decide⟩) hK hP hD hS hA [0, 1, 2, 3, 4] [0, 1, 2, 3, 4] [5, 6] rfl (by decide) (fun _ => rfl) [(p6, .inl (cI, 12, .inl KD)), (p7, .inl (cI, 12, .inl KS))] (fun _ => rfl) rfl (fun _ => rfl) (by decide) (by decide) rfl rfl rfl hl.1 rfl (Nat.le_of_ble_eq_true rfl) d_M_oneUp_146 ⟨by decide, by decide⟩ (fun u H locs w146 hP hD hS => ?_)
    have hP : va_P (dC, dI) vwCl [(mm, .inr (8, [.int mp, .int co, .int (nI n), .ref p1, .ref p2, .ref p3, .ref p4, .ref p5, .int (nI un), .ref p6, .ref p7, .ref p8, .int cm, .ref p9, .ref p10, .ref p11, .int (nI (o + 1)), .ref p12, .ref p13, .ref p14, .ref p15, .ref p16, .ref p17, .ref p18, .ref p19, .ref p20, .ref p21, .int (nI he), .ref p22])), (p12, .inl (cI, 8, .inl (upd O1 o (KS (2 * t + f - 1))))), (p13, .inl (cI, 8, .inl (upd O2 o (nI (f + 1))))), (p14, .inl (cI, 8, .inl (upd O3 o a))), (p15, .inl (cI, 8, .inl (upd O4 o b))), (p6, .inl (cI, 12, .inl KD)), (p7, .inl (cI, 12, .inl KS))] H := hP
    have hD : va_D zA [(mm, .inr (8, [.int mp, .int co, .int (nI n), .ref p1, .ref p2, .ref p3, .ref p4, .ref p5, .int (nI un), .ref p6, .ref p7, .ref p8, .int cm, .ref p9, .ref p10, .ref p11, .int (nI (o + 1)), .ref p12, .ref p13, .ref p14, .ref p15, .ref p16, .ref p17, .ref p18, .ref p19, .ref p20, .ref p21, .int (nI he), .ref p22])), (p12, .inl (cI, 8, .inl (upd O1 o (KS (2 * t + f - 1))))), (p13, .inl (cI, 8, .inl (upd O2 o (nI (f + 1))))), (p14, .inl (cI, 8, .inl (upd O3 o a))), (p15, .inl (cI, 8, .inl (upd O4 o b))), (p6, .inl (cI, 12, .inl KD)), (p7, .inl (cI, 12, .inl KS))] := hD
    try dsimp only at w146
    refine W.eq (g2 := F0 zm 149 ls []) rfl ?_
    refine lv_goto (tgt := 152) hx hb d_M_oneUp_149 (by decide) ?_
    exact us_vret hQ (by decide) (by decide) hx hb hr hlk hK hS ((upd O1 o (KS (2 * t + f - 1))), (upd O2 o (nI (f + 1))), (upd O3 o a), (upd O4 o b), (o + 1)) rfl (⟨by rw [e1]; have q := us_row_put hrow ((KS (2 * t + f - 1)).toNatClampNeg, f + 1, a, b) hn; rw [hkc] at q; exact q, by rw [e1]; rfl⟩) hP hD d_M_oneUp_152
  have kk0t := lv_neT kk0 (a := 0) (by decide)
  have kk1t := lv_neT kk1 (a := 1) (by decide)
  have kk2t := lv_neT kk2 (a := 2) (by decide)
  have kk3t := lv_neT kk3 (a := 3) (by decide)
  have kk4t := lv_neT kk4 (a := 4) (by decide)
  have kk5t := lv_neT kk5 (a := 5) (by decide)
  refine lv_tableOut (tgt := 152) hx hb d_M_oneUp_25 (by omega) (by decide) ?_
  exact us_vret hQ (by decide) (by decide) hx hb hr hlk hK hS (O1, O2, O3, O4, o) rfl (⟨us_nilrow hrow (by simp_all [us_up1]), us_nillen (by simp_all [us_up1])⟩) hP hD d_M_oneUp_152
