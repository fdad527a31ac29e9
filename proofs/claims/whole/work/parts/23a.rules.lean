set_option maxHeartbeats 4000000 in
set_option maxRecDepth 100000 in
theorem c_Math_floorDiv (zl : Launch) (dC : Nat → ClassId) (dI : Nat → Nat → Nat) (cI cL cS cR : ClassId) (x : Int32)  : us_Met (S := Unit) zl y_Math_floorDiv w_Math_floorDiv ({ frames := 0, cells := 0, slots := 0, locals := 0 }) (dC, dI) vwCl (us_ty cI cL cS cR) [.int x, .int (2 : Int32)] [] (fun u => some (.int (x >>> (1 : Int32)))) (fun u => True) (fun u => []) := by
  refine us_ofJ (cc := b_Math_floorDiv) (maxL := 3) (ret := (some .int)) (by decide +kernel) (Nat.le_of_ble_eq_true rfl) ?_
  intro zp ze zs zm args below meth zc zA ls zQ hQ hx hb hr hml hts hown hlk hin hl hK hP hD hS hA
  have hown : zs.vm.findClass "java/lang/Math" = some zm.cls := hown
  have hl : lv_has ls 3 [(0, .int x), (1, .int (2 : Int32))] := hl
  obtain ⟨H, hH⟩ : ∃ H, H = zs.heap := ⟨_, rfl⟩
  rw [← hH] at hP ⊢
  have hS : va_S zA zs.heap H [] := hH ▸ hS
  generalize ([] : List Loc) = locs at hS ⊢
  refine lv_iload_n hx hb d_Math_floorDiv_0 rfl (lv_at hl 0 rfl) ?_
  refine lv_iload_n hx hb d_Math_floorDiv_1 rfl (lv_at hl 1 rfl) ?_
  refine lv_idiv hx hb d_Math_floorDiv_2 (by decide) ?_
  refine lv_istore_n (lv' := [(2, .int (x / (2 : Int32))), (0, .int x), (1, .int (2 : Int32))]) hx hb d_Math_floorDiv_3 rfl hl (by decide) rfl (fun ls hl => ?_)
  refine lv_iload_n hx hb d_Math_floorDiv_4 rfl (lv_at hl 1 rfl) ?_
  refine lv_iload_n hx hb d_Math_floorDiv_5 rfl (lv_at hl 2 rfl) ?_
  refine lv_ixor hx hb d_Math_floorDiv_6 ?_
  refine lv_if_ge (tgt := 21) hx hb d_Math_floorDiv_7 (by decide) (fun c7 => ?_) (fun c7 => ?_)
  · refine lv_iload_n hx hb d_Math_floorDiv_21 rfl (lv_at hl 0 rfl) ?_
    refine us_top (show (x / (2 : Int32)) = (x >>> (1 : Int32)) from (by first | exact us_fdA (Int32.not_lt.mpr c7) | exact us_fdB c14)) ?_
    exact us_iret hQ (by decide) (by decide) hx hb hr hlk hK hS () rfl (by simp) hP hD d_Math_floorDiv_22
  · refine lv_iload_n hx hb d_Math_floorDiv_10 rfl (lv_at hl 0 rfl) ?_
    refine lv_iload_n hx hb d_Math_floorDiv_11 rfl (lv_at hl 2 rfl) ?_
    refine lv_imul hx hb d_Math_floorDiv_12 ?_
    refine lv_iload_n hx hb d_Math_floorDiv_13 rfl (lv_at hl 1 rfl) ?_
    refine lv_icmp_eq (tgt := 21) hx hb d_Math_floorDiv_14 (by decide) (fun c14 => ?_) (fun c14 => ?_)
    · refine lv_iload_n hx hb d_Math_floorDiv_21 rfl (lv_at hl 0 rfl) ?_
      refine us_top (show (x / (2 : Int32)) = (x >>> (1 : Int32)) from (by first | exact us_fdA (Int32.not_lt.mpr c7) | exact us_fdB c14)) ?_
      exact us_iret hQ (by decide) (by decide) hx hb hr hlk hK hS () rfl (by simp) hP hD d_Math_floorDiv_22
    · refine lv_iload_n hx hb d_Math_floorDiv_17 rfl (lv_at hl 0 rfl) ?_
      refine lv_iconst (v := (1 : Int32)) hx hb d_Math_floorDiv_18 (by decide) ?_
      refine lv_isub hx hb d_Math_floorDiv_19 ?_
      refine us_top (show ((x / (2 : Int32)) - (1 : Int32)) = (x >>> (1 : Int32)) from (us_fdC (Int32.not_le.mp c7) c14)) ?_
      exact us_iret hQ (by decide) (by decide) hx hb hr hlk hK hS () rfl (by simp) hP hD d_Math_floorDiv_20

set_option maxHeartbeats 4000000 in
set_option maxRecDepth 100000 in
theorem c_Rules_ruleOf (zl : Launch) (dC : Nat → ClassId) (dI : Nat → Nat → Nat) (cI cL cS cR : ClassId) (t : Nat) (f : Nat) (ht : t < 6) (h1 : 1 ≤ f) (h3 : f ≤ 3) : us_Met (S := Unit) zl y_Rules_ruleOf w_Rules_ruleOf ({ frames := 0, cells := 0, slots := 0, locals := 0 }) (dC, dI) vwCl (us_ty cI cL cS cR) [.int (nI t), .int (nI f)] [] (fun u => some (.int (nI (2 * t + f - 1)))) (fun u => True) (fun u => []) := by
  refine us_ofW (cc := b_Rules_ruleOf) (maxL := 2) (ret := (some .int)) (by decide) (Nat.le_of_ble_eq_true rfl) ?_
  intro zp ze zs zm args below meth zc zA ls zQ hQ hx hb hr hml hts hown hlk hin hl hK hP hD hS hA
  have hown : zs.vm.findClass "UpcastStreams$Rules" = some zm.cls := hown
  have hl : lv_has ls 2 [(0, .int (nI t)), (1, .int (nI f))] := hl
  obtain ⟨H, hH⟩ : ∃ H, H = zs.heap := ⟨_, rfl⟩
  rw [← hH] at hP ⊢
  have hS : va_S zA zs.heap H [] := hH ▸ hS
  generalize ([] : List Loc) = locs at hS ⊢
  refine lv_iload_n hx hb d_Rules_ruleOf_0 rfl (lv_at hl 0 rfl) ?_
  refine lv_iconst (v := (2 : Int32)) hx hb d_Rules_ruleOf_1 (by decide) ?_
  refine lv_imul hx hb d_Rules_ruleOf_2 ?_
  refine lv_iload_n hx hb d_Rules_ruleOf_3 rfl (lv_at hl 1 rfl) ?_
  refine lv_iadd hx hb d_Rules_ruleOf_4 ?_
  refine lv_iconst (v := (1 : Int32)) hx hb d_Rules_ruleOf_5 (by decide) ?_
  refine lv_isub hx hb d_Rules_ruleOf_6 ?_
  refine us_top (show ((((nI t) * (2 : Int32)) + (nI f)) - (1 : Int32)) = (nI (2 * t + f - 1)) from us_rule ht h1 h3) ?_
  exact us_iret hQ (by decide) (by decide) hx hb hr hlk hK hS () rfl (by simp) hP hD d_Rules_ruleOf_7

set_option maxHeartbeats 4000000 in
set_option maxRecDepth 100000 in
theorem c_Rules_change (zl : Launch) (dC : Nat → ClassId) (dI : Nat → Nat → Nat) (cI cL cS cR : ClassId) (h : Nat) (kd : Nat) (ks : Nat) (gh : Nat) (oh : Nat) (t : Nat) (f : Nat) (KD : Nat → Int32) (KS : Nat → Int32) (x : Int32) (y : Int32) (ht : t < 6) (h1 : 1 ≤ f) (h2 : f < 3) : us_Met (S := Unit) zl y_Rules_change w_Rules_change ({ frames := 1, cells := 0, slots := 0, locals := 21 }) (dC, dI) vwCl (us_ty cI cL cS cR) [.ref h, .int (nI t), .int (nI f), .int x, .int y] [(h, .inr (5, [.ref kd, .ref ks, .ref gh, .ref oh])), (kd, .inl (cI, 12, .inl KD)), (ks, .inl (cI, 12, .inl KS))] (fun _ => none) (fun u => True) (fun u => [(h, .inr (5, [.ref kd, .ref ks, .ref gh, .ref oh])), (kd, .inl (cI, 12, .inl (upd KD (2 * t + f - 1) x))), (ks, .inl (cI, 12, .inl (upd KS (2 * t + f - 1) y)))]) := by
  refine us_ofW (cc := b_Rules_change) (maxL := 6) (ret := none) (by decide) (Nat.le_of_ble_eq_true rfl) ?_
  intro zp ze zs zm args below meth zc zA ls zQ hQ hx hb hr hml hts hown hlk hin hl hK hP hD hS hA
  have hown : zs.vm.findClass "UpcastStreams$Rules" = some zm.cls := hown
  have hl : lv_has ls 6 [(0, .ref h), (1, .int (nI t)), (2, .int (nI f)), (3, .int x), (4, .int y)] := hl
  obtain ⟨H, hH⟩ : ∃ H, H = zs.heap := ⟨_, rfl⟩
  rw [← hH] at hP ⊢
  have hS : va_S zA zs.heap H [] := hH ▸ hS
  generalize ([] : List Loc) = locs at hS ⊢
  refine lv_iload_n hx hb d_Rules_change_0 rfl (lv_at hl 1 rfl) ?_
  refine lv_iload_n hx hb d_Rules_change_1 rfl (lv_at hl 2 rfl) ?_
  refine us_callS (As := [.int (nI t), .int (nI f)]) (rest := []) ⟨hx, hb, hml, hown, hts⟩ (c_Rules_ruleOf zl dC dI cI cL cS cR t f ht h1 (by omega)) ⟨callB_of 2 hts (us_gC k_Rules_ruleOf) rfl rfl rfl (hts _ uw_1_5) (hts _ uw_2_203) h_Rules_ruleOf.2 ⟨by decide, by decide⟩, (hts _ uw_2_204)⟩ hK hP hD hS hA [] rfl (by decide) (fun _ => Nat.le_of_ble_eq_true rfl) rfl hl.1 rfl (Nat.le_of_ble_eq_true rfl) d_Rules_change_2 ⟨by decide, by decide⟩ (fun u H locs w2 hP hD hS => ?_)
  have hP : va_P (dC, dI) vwCl [(h, .inr (5, [.ref kd, .ref ks, .ref gh, .ref oh])), (kd, .inl (cI, 12, .inl KD)), (ks, .inl (cI, 12, .inl KS))] H := hP
  have hD : va_D zA [(h, .inr (5, [.ref kd, .ref ks, .ref gh, .ref oh])), (kd, .inl (cI, 12, .inl KD)), (ks, .inl (cI, 12, .inl KS))] := hD
  try dsimp only at w2
  refine W.eq (g2 := F0 zm 5 ls [.int (nI (2 * t + f - 1))]) rfl ?_
  refine lv_istore (lv' := [(5, .int (nI (2 * t + f - 1))), (0, .ref h), (1, .int (nI t)), (2, .int (nI f)), (3, .int x), (4, .int y)]) hx hb d_Rules_change_5 hl (by decide) rfl (fun ls hl => ?_)
  refine lv_aload_n hx hb d_Rules_change_7 rfl (lv_at hl 1 rfl) ?_
  refine va_get (D := (dC, dI)) (ci := 5) (v := .ref kd) (C := "UpcastStreams$Rules") (T := F_Rules) (N := 4) hx hb hts in_Rules hown hK hP 0 rfl rfl 0 (by decide) (hts _ uw_1_108) (fun _ h9 => h9) rfl d_Rules_change_8 ?_
  refine lv_iload hx hb d_Rules_change_11 (lv_at hl 0 rfl) ?_
  refine lv_iload_n hx hb d_Rules_change_13 rfl (lv_at hl 4 rfl) ?_
  refine us_iast (j := 2 * t + f - 1) hx hb hK hP hD hS 1 0 rfl rfl (vp_in_nI (by omega) (by omega)) (nI_clamp (by omega)) d_Rules_change_14 (fun H locs hP hD hS => ?_)
  have hP : va_P (dC, dI) vwCl [(h, .inr (5, [.ref kd, .ref ks, .ref gh, .ref oh])), (kd, .inl (cI, 12, .inl (upd KD (2 * t + f - 1) x))), (ks, .inl (cI, 12, .inl KS))] H := hP
  have hD : va_D zA [(h, .inr (5, [.ref kd, .ref ks, .ref gh, .ref oh])), (kd, .inl (cI, 12, .inl (upd KD (2 * t + f - 1) x))), (ks, .inl (cI, 12, .inl KS))] := hD
  refine lv_aload_n hx hb d_Rules_change_15 rfl (lv_at hl 1 rfl) ?_
  refine va_get (D := (dC, dI)) (ci := 5) (v := .ref ks) (C := "UpcastStreams$Rules") (T := F_Rules) (N := 4) hx hb hts in_Rules hown hK hP 0 rfl rfl 1 (by decide) (hts _ uw_1_109) (fun _ h9 => h9) rfl d_Rules_change_16 ?_
  refine lv_iload hx hb d_Rules_change_19 (lv_at hl 0 rfl) ?_
  refine lv_iload hx hb d_Rules_change_21 (lv_at hl 5 rfl) ?_
  refine us_iast (j := 2 * t + f - 1) hx hb hK hP hD hS 2 0 rfl rfl (vp_in_nI (by omega) (by omega)) (nI_clamp (by omega)) d_Rules_change_23 (fun H locs hP hD hS => ?_)
  have hP : va_P (dC, dI) vwCl [(h, .inr (5, [.ref kd, .ref ks, .ref gh, .ref oh])), (kd, .inl (cI, 12, .inl (upd KD (2 * t + f - 1) x))), (ks, .inl (cI, 12, .inl (upd KS (2 * t + f - 1) y)))] H := hP
  have hD : va_D zA [(h, .inr (5, [.ref kd, .ref ks, .ref gh, .ref oh])), (kd, .inl (cI, 12, .inl (upd KD (2 * t + f - 1) x))), (ks, .inl (cI, 12, .inl (upd KS (2 * t + f - 1) y)))] := hD
  exact us_vret hQ (by decide) (by decide) hx hb hr hlk hK hS () rfl (by simp) hP hD d_Rules_change_24

set_option maxHeartbeats 4000000 in
set_option maxRecDepth 100000 in
theorem c_Rules_step (zl : Launch) (dC : Nat → ClassId) (dI : Nat → Nat → Nat) (cI cL cS cR : ClassId) (h : Nat) (kd : Nat) (ks : Nat) (oh : Nat) (t : Nat) (f : Nat) (KD : Nat → Int32) (KS : Nat → Int32) (x : Int32) (y : Int32) (gh : Nat) (gt : Nat) (gf : Nat) (ga : Nat) (gb : Nat) (n : Nat) (gT : Nat → Int32) (gF : Nat → Int32) (gU : Nat → Int32) (gV : Nat → Int32) (es : List us_Ev) (ht : t < 6) (h1 : 1 ≤ f) (h2 : f < 3) (hR : us_rok KD KS) (hrow : us_row gT gF gU gV es) (hn : n = es.length) (hk : n + (us_up1 KD KS (t, f, x, y)).length ≤ 4) : us_Met (S := (Nat → Int32) × (Nat → Int32) × (Nat → Int32) × (Nat → Int32) × Nat) zl y_Rules_step w_Rules_step ({ frames := 1, cells := 0, slots := 0, locals := 24 }) (dC, dI) vwCl (us_ty cI cL cS cR) [.ref h, .int (nI t), .int (nI f), .int x, .int y] [(h, .inr (5, [.ref kd, .ref ks, .ref gh, .ref oh])), (kd, .inl (cI, 12, .inl KD)), (ks, .inl (cI, 12, .inl KS)), (gh, .inr (0, [.ref gt, .ref gf, .ref ga, .ref gb, .int (nI n)])), (gt, .inl (cI, 4, .inl gT)), (gf, .inl (cI, 4, .inl gF)), (ga, .inl (cI, 4, .inl gU)), (gb, .inl (cI, 4, .inl gV))] (fun _ => none) (fun u => us_row u.1 u.2.1 u.2.2.1 u.2.2.2.1 (es ++ us_up1 KD KS (t, f, x, y)) ∧ u.2.2.2.2 = n + (us_up1 KD KS (t, f, x, y)).length) (fun u => [(h, .inr (5, [.ref kd, .ref ks, .ref gh, .ref oh])), (kd, .inl (cI, 12, .inl KD)), (ks, .inl (cI, 12, .inl KS)), (gh, .inr (0, [.ref gt, .ref gf, .ref ga, .ref gb, .int (nI u.2.2.2.2)])), (gt, .inl (cI, 4, .inl u.1)), (gf, .inl (cI, 4, .inl u.2.1)), (ga, .inl (cI, 4, .inl u.2.2.1)), (gb, .inl (cI, 4, .inl u.2.2.2.1))]) := by
  refine us_ofW (cc := b_Rules_step) (maxL := 8) (ret := none) (by decide) (Nat.le_of_ble_eq_true rfl) ?_
  intro zp ze zs zm args below meth zc zA ls zQ hQ hx hb hr hml hts hown hlk hin hl hK hP hD hS hA
  have hown : zs.vm.findClass "UpcastStreams$Rules" = some zm.cls := hown
  have hl : lv_has ls 8 [(0, .ref h), (1, .int (nI t)), (2, .int (nI f)), (3, .int x), (4, .int y)] := hl
  obtain ⟨H, hH⟩ : ∃ H, H = zs.heap := ⟨_, rfl⟩
  rw [← hH] at hP ⊢
  have hS : va_S zA zs.heap H [] := hH ▸ hS
  generalize ([] : List Loc) = locs at hS ⊢
  refine lv_iload_n hx hb d_Rules_step_0 rfl (lv_at hl 1 rfl) ?_
  refine lv_iload_n hx hb d_Rules_step_1 rfl (lv_at hl 2 rfl) ?_
  refine us_callS (As := [.int (nI t), .int (nI f)]) (rest := []) ⟨hx, hb, hml, hown, hts⟩ (c_Rules_ruleOf zl dC dI cI cL cS cR t f ht h1 (by omega)) ⟨callB_of 2 hts (us_gC k_Rules_ruleOf) rfl rfl rfl (hts _ uw_1_5) (hts _ uw_2_203) h_Rules_ruleOf.2 ⟨by decide, by decide⟩, (hts _ uw_2_204)⟩ hK hP hD hS hA [] rfl (by decide) (fun _ => Nat.le_of_ble_eq_true rfl) rfl hl.1 rfl (Nat.le_of_ble_eq_true rfl) d_Rules_step_2 ⟨by decide, by decide⟩ (fun u H locs w2 hP hD hS => ?_)
  have hP : va_P (dC, dI) vwCl [(h, .inr (5, [.ref kd, .ref ks, .ref gh, .ref oh])), (kd, .inl (cI, 12, .inl KD)), (ks, .inl (cI, 12, .inl KS)), (gh, .inr (0, [.ref gt, .ref gf, .ref ga, .ref gb, .int (nI n)])), (gt, .inl (cI, 4, .inl gT)), (gf, .inl (cI, 4, .inl gF)), (ga, .inl (cI, 4, .inl gU)), (gb, .inl (cI, 4, .inl gV))] H := hP
  have hD : va_D zA [(h, .inr (5, [.ref kd, .ref ks, .ref gh, .ref oh])), (kd, .inl (cI, 12, .inl KD)), (ks, .inl (cI, 12, .inl KS)), (gh, .inr (0, [.ref gt, .ref gf, .ref ga, .ref gb, .int (nI n)])), (gt, .inl (cI, 4, .inl gT)), (gf, .inl (cI, 4, .inl gF)), (ga, .inl (cI, 4, .inl gU)), (gb, .inl (cI, 4, .inl gV))] := hD
  try dsimp only at w2
  refine W.eq (g2 := F0 zm 5 ls [.int (nI (2 * t + f - 1))]) rfl ?_
  refine lv_istore (lv' := [(5, .int (nI (2 * t + f - 1))), (0, .ref h), (1, .int (nI t)), (2, .int (nI f)), (3, .int x), (4, .int y)]) hx hb d_Rules_step_5 hl (by decide) rfl (fun ls hl => ?_)
  refine lv_aload_n hx hb d_Rules_step_7 rfl (lv_at hl 1 rfl) ?_
  refine va_get (D := (dC, dI)) (ci := 5) (v := .ref ks) (C := "UpcastStreams$Rules") (T := F_Rules) (N := 4) hx hb hts in_Rules hown hK hP 0 rfl rfl 1 (by decide) (hts _ uw_1_109) (fun _ h9 => h9) rfl d_Rules_step_8 ?_
  refine lv_iload hx hb d_Rules_step_11 (lv_at hl 0 rfl) ?_
  refine us_iald (j := 2 * t + f - 1) hx hb hK hP 2 0 rfl rfl (vp_in_nI (by omega) (by omega)) (nI_clamp (by omega)) d_Rules_step_13 ?_
  refine lv_istore (lv' := [(6, .int (KS (2 * t + f - 1))), (5, .int (nI (2 * t + f - 1))), (0, .ref h), (1, .int (nI t)), (2, .int (nI f)), (3, .int x), (4, .int y)]) hx hb d_Rules_step_14 hl (by decide) rfl (fun ls hl => ?_)
  refine lv_iload_n hx hb d_Rules_step_16 rfl (lv_at hl 4 rfl) ?_
  refine lv_iconst (v := (1 : Int32)) hx hb d_Rules_step_17 (by decide) ?_
  refine lv_iadd hx hb d_Rules_step_18 ?_
  refine us_top (show ((nI f) + (1 : Int32)) = (nI (f + 1)) from nI_1 f) ?_
  refine lv_istore (lv' := [(7, .int (nI (f + 1))), (6, .int (KS (2 * t + f - 1))), (5, .int (nI (2 * t + f - 1))), (0, .ref h), (1, .int (nI t)), (2, .int (nI f)), (3, .int x), (4, .int y)]) hx hb d_Rules_step_19 hl (by decide) rfl (fun ls hl => ?_)
  refine lv_aload_n hx hb d_Rules_step_21 rfl (lv_at hl 3 rfl) ?_
  refine va_get (D := (dC, dI)) (ci := 5) (v := .ref kd) (C := "UpcastStreams$Rules") (T := F_Rules) (N := 4) hx hb hts in_Rules hown hK hP 0 rfl rfl 0 (by decide) (hts _ uw_1_108) (fun _ h9 => h9) rfl d_Rules_step_22 ?_
  refine lv_iload hx hb d_Rules_step_25 (lv_at hl 2 rfl) ?_
  refine us_iald (j := 2 * t + f - 1) hx hb hK hP 1 0 rfl rfl (vp_in_nI (by omega) (by omega)) (nI_clamp (by omega)) d_Rules_step_27 ?_
  by_cases kk0 : KD (2 * t + f - 1) = (0 : Int32)
  · refine us_top (show KD (2 * t + f - 1) = (0 : Int32) from kk0) ?_
    refine lv_tableIn (off := (44 : Int)) (tgt := 72) hx hb d_Rules_step_28 (by decide) (by decide) (by decide) (by decide) ?_
    have e1 : us_up1 KD KS (t, f, x, y) = [(t, f + 1, x, y)] := by simp [us_up1, kk0]
    rw [e1] at hk
    simp only [List.length_cons, List.length_nil] at hk
    refine lv_aload_n hx hb d_Rules_step_72 rfl (lv_at hl 3 rfl) ?_
    refine va_get (D := (dC, dI)) (ci := 5) (v := .ref gh) (C := "UpcastStreams$Rules") (T := F_Rules) (N := 4) hx hb hts in_Rules hown hK hP 0 rfl rfl 2 (by decide) (hts _ uw_1_110) (fun _ h9 => h9) rfl d_Rules_step_73 ?_
    refine lv_iload_n hx hb d_Rules_step_76 rfl (lv_at hl 4 rfl) ?_
    refine lv_iload hx hb d_Rules_step_77 (lv_at hl 0 rfl) ?_
    refine lv_iload_n hx hb d_Rules_step_79 rfl (lv_at hl 6 rfl) ?_
    refine lv_iload hx hb d_Rules_step_80 (lv_at hl 7 rfl) ?_
    refine us_callV (q0 := 3) (As := [.int (nI t), .int (nI (f + 1)), .int x, .int y]) (rest := []) ⟨hx, hb, hml, hown, hts⟩ (c_Row_put zl dC dI cI cL cS cR gh gt gf ga gb 4 n gT gF gU gV (nI t) (nI (f + 1)) x y (by omega) (by decide)) (cwV 4 hts (us_gV uw_2_206 uw_2_12 uw_2_13 uw_1_3 k_Row_put) rfl rfl rfl h_Row_put ⟨by decide, by decide⟩) hK hP hD hS hA [3, 4, 5, 6, 7] rfl (by decide) (fun _ => Nat.le_of_ble_eq_true rfl) rfl rfl rfl hl.1 rfl (Nat.le_of_ble_eq_true rfl) d_Rules_step_82 ⟨by decide, by decide⟩ (fun u H locs w82 hP hD hS => ?_)
    have hP : va_P (dC, dI) vwCl [(h, .inr (5, [.ref kd, .ref ks, .ref gh, .ref oh])), (kd, .inl (cI, 12, .inl KD)), (ks, .inl (cI, 12, .inl KS)), (gh, .inr (0, [.ref gt, .ref gf, .ref ga, .ref gb, .int (nI (n + 1))])), (gt, .inl (cI, 4, .inl (upd gT n (nI t)))), (gf, .inl (cI, 4, .inl (upd gF n (nI (f + 1))))), (ga, .inl (cI, 4, .inl (upd gU n x))), (gb, .inl (cI, 4, .inl (upd gV n y)))] H := hP
    have hD : va_D zA [(h, .inr (5, [.ref kd, .ref ks, .ref gh, .ref oh])), (kd, .inl (cI, 12, .inl KD)), (ks, .inl (cI, 12, .inl KS)), (gh, .inr (0, [.ref gt, .ref gf, .ref ga, .ref gb, .int (nI (n + 1))])), (gt, .inl (cI, 4, .inl (upd gT n (nI t)))), (gf, .inl (cI, 4, .inl (upd gF n (nI (f + 1))))), (ga, .inl (cI, 4, .inl (upd gU n x))), (gb, .inl (cI, 4, .inl (upd gV n y)))] := hD
    try dsimp only at w82
    refine W.eq (g2 := F0 zm 85 ls []) rfl ?_
    refine lv_goto (tgt := 195) hx hb d_Rules_step_85 (by decide) ?_
    exact us_vret hQ (by decide) (by decide) hx hb hr hlk hK hS ((upd gT n (nI t)), (upd gF n (nI (f + 1))), (upd gU n x), (upd gV n y), (n + 1)) rfl (⟨by rw [e1]; exact us_row_put hrow _ hn, by rw [e1]; rfl⟩) hP hD d_Rules_step_195
  by_cases kk1 : KD (2 * t + f - 1) = (1 : Int32)
  · refine us_top (show KD (2 * t + f - 1) = (1 : Int32) from kk1) ?_
    refine lv_tableIn (off := (60 : Int)) (tgt := 88) hx hb d_Rules_step_28 (by decide) (by decide) (by decide) (by decide) ?_
    have e1 : us_up1 KD KS (t, f, x, y) = [(t, f + 1, y, x)] := by simp [us_up1, kk1]
    rw [e1] at hk
    simp only [List.length_cons, List.length_nil] at hk
    refine lv_aload_n hx hb d_Rules_step_88 rfl (lv_at hl 3 rfl) ?_
    refine va_get (D := (dC, dI)) (ci := 5) (v := .ref gh) (C := "UpcastStreams$Rules") (T := F_Rules) (N := 4) hx hb hts in_Rules hown hK hP 0 rfl rfl 2 (by decide) (hts _ uw_1_110) (fun _ h9 => h9) rfl d_Rules_step_89 ?_
    refine lv_iload_n hx hb d_Rules_step_92 rfl (lv_at hl 4 rfl) ?_
    refine lv_iload hx hb d_Rules_step_93 (lv_at hl 0 rfl) ?_
    refine lv_iload hx hb d_Rules_step_95 (lv_at hl 7 rfl) ?_
    refine lv_iload_n hx hb d_Rules_step_97 rfl (lv_at hl 6 rfl) ?_
    refine us_callV (q0 := 3) (As := [.int (nI t), .int (nI (f + 1)), .int y, .int x]) (rest := []) ⟨hx, hb, hml, hown, hts⟩ (c_Row_put zl dC dI cI cL cS cR gh gt gf ga gb 4 n gT gF gU gV (nI t) (nI (f + 1)) y x (by omega) (by decide)) (cwV 4 hts (us_gV uw_2_206 uw_2_12 uw_2_13 uw_1_3 k_Row_put) rfl rfl rfl h_Row_put ⟨by decide, by decide⟩) hK hP hD hS hA [3, 4, 5, 6, 7] rfl (by decide) (fun _ => Nat.le_of_ble_eq_true rfl) rfl rfl rfl hl.1 rfl (Nat.le_of_ble_eq_true rfl) d_Rules_step_98 ⟨by decide, by decide⟩ (fun u H locs w98 hP hD hS => ?_)
    have hP : va_P (dC, dI) vwCl [(h, .inr (5, [.ref kd, .ref ks, .ref gh, .ref oh])), (kd, .inl (cI, 12, .inl KD)), (ks, .inl (cI, 12, .inl KS)), (gh, .inr (0, [.ref gt, .ref gf, .ref ga, .ref gb, .int (nI (n + 1))])), (gt, .inl (cI, 4, .inl (upd gT n (nI t)))), (gf, .inl (cI, 4, .inl (upd gF n (nI (f + 1))))), (ga, .inl (cI, 4, .inl (upd gU n y))), (gb, .inl (cI, 4, .inl (upd gV n x)))] H := hP
    have hD : va_D zA [(h, .inr (5, [.ref kd, .ref ks, .ref gh, .ref oh])), (kd, .inl (cI, 12, .inl KD)), (ks, .inl (cI, 12, .inl KS)), (gh, .inr (0, [.ref gt, .ref gf, .ref ga, .ref gb, .int (nI (n + 1))])), (gt, .inl (cI, 4, .inl (upd gT n (nI t)))), (gf, .inl (cI, 4, .inl (upd gF n (nI (f + 1))))), (ga, .inl (cI, 4, .inl (upd gU n y))), (gb, .inl (cI, 4, .inl (upd gV n x)))] := hD
    try dsimp only at w98
    refine W.eq (g2 := F0 zm 101 ls []) rfl ?_
    refine lv_goto (tgt := 195) hx hb d_Rules_step_101 (by decide) ?_
    exact us_vret hQ (by decide) (by decide) hx hb hr hlk hK hS ((upd gT n (nI t)), (upd gF n (nI (f + 1))), (upd gU n y), (upd gV n x), (n + 1)) rfl (⟨by rw [e1]; exact us_row_put hrow _ hn, by rw [e1]; rfl⟩) hP hD d_Rules_step_195
  by_cases kk2 : KD (2 * t + f - 1) = (2 : Int32)
  · refine us_top (show KD (2 * t + f - 1) = (2 : Int32) from kk2) ?_
    refine lv_tableIn (off := (76 : Int)) (tgt := 104) hx hb d_Rules_step_28 (by decide) (by decide) (by decide) (by decide) ?_
    have e1 : us_up1 KD KS (t, f, x, y) = [(t, f + 1, x * KS (2 * t + f - 1), y)] := by simp [us_up1, kk2]
    rw [e1] at hk
    simp only [List.length_cons, List.length_nil] at hk
    refine lv_aload_n hx hb d_Rules_step_104 rfl (lv_at hl 3 rfl) ?_
    refine va_get (D := (dC, dI)) (ci := 5) (v := .ref gh) (C := "UpcastStreams$Rules") (T := F_Rules) (N := 4) hx hb hts in_Rules hown hK hP 0 rfl rfl 2 (by decide) (hts _ uw_1_110) (fun _ h9 => h9) rfl d_Rules_step_105 ?_
    refine lv_iload_n hx hb d_Rules_step_108 rfl (lv_at hl 4 rfl) ?_
    refine lv_iload hx hb d_Rules_step_109 (lv_at hl 0 rfl) ?_
    refine lv_iload_n hx hb d_Rules_step_111 rfl (lv_at hl 6 rfl) ?_
    refine lv_iload hx hb d_Rules_step_112 (lv_at hl 1 rfl) ?_
    refine lv_imul hx hb d_Rules_step_114 ?_
    refine lv_iload hx hb d_Rules_step_115 (lv_at hl 7 rfl) ?_
    refine us_callV (q0 := 3) (As := [.int (nI t), .int (nI (f + 1)), .int (x * (KS (2 * t + f - 1))), .int y]) (rest := []) ⟨hx, hb, hml, hown, hts⟩ (c_Row_put zl dC dI cI cL cS cR gh gt gf ga gb 4 n gT gF gU gV (nI t) (nI (f + 1)) (x * (KS (2 * t + f - 1))) y (by omega) (by decide)) (cwV 4 hts (us_gV uw_2_206 uw_2_12 uw_2_13 uw_1_3 k_Row_put) rfl rfl rfl h_Row_put ⟨by decide, by decide⟩) hK hP hD hS hA [3, 4, 5, 6, 7] rfl (by decide) (fun _ => Nat.le_of_ble_eq_true rfl) rfl rfl rfl hl.1 rfl (Nat.le_of_ble_eq_true rfl) d_Rules_step_117 ⟨by decide, by decide⟩ (fun u H locs w117 hP hD hS => ?_)
    have hP : va_P (dC, dI) vwCl [(h, .inr (5, [.ref kd, .ref ks, .ref gh, .ref oh])), (kd, .inl (cI, 12, .inl KD)), (ks, .inl (cI, 12, .inl KS)), (gh, .inr (0, [.ref gt, .ref gf, .ref ga, .ref gb, .int (nI (n + 1))])), (gt, .inl (cI, 4, .inl (upd gT n (nI t)))), (gf, .inl (cI, 4, .inl (upd gF n (nI (f + 1))))), (ga, .inl (cI, 4, .inl (upd gU n (x * (KS (2 * t + f - 1)))))), (gb, .inl (cI, 4, .inl (upd gV n y)))] H := hP
    have hD : va_D zA [(h, .inr (5, [.ref kd, .ref ks, .ref gh, .ref oh])), (kd, .inl (cI, 12, .inl KD)), (ks, .inl (cI, 12, .inl KS)), (gh, .inr (0, [.ref gt, .ref gf, .ref ga, .ref gb, .int (nI (n + 1))])), (gt, .inl (cI, 4, .inl (upd gT n (nI t)))), (gf, .inl (cI, 4, .inl (upd gF n (nI (f + 1))))), (ga, .inl (cI, 4, .inl (upd gU n (x * (KS (2 * t + f - 1)))))), (gb, .inl (cI, 4, .inl (upd gV n y)))] := hD
    try dsimp only at w117
    refine W.eq (g2 := F0 zm 120 ls []) rfl ?_
    refine lv_goto (tgt := 195) hx hb d_Rules_step_120 (by decide) ?_
    exact us_vret hQ (by decide) (by decide) hx hb hr hlk hK hS ((upd gT n (nI t)), (upd gF n (nI (f + 1))), (upd gU n (x * (KS (2 * t + f - 1)))), (upd gV n y), (n + 1)) rfl (⟨by rw [e1]; exact us_row_put hrow _ hn, by rw [e1]; rfl⟩) hP hD d_Rules_step_195
  by_cases kk3 : KD (2 * t + f - 1) = (3 : Int32)
  · refine us_top (show KD (2 * t + f - 1) = (3 : Int32) from kk3) ?_
    refine lv_tableIn (off := (95 : Int)) (tgt := 123) hx hb d_Rules_step_28 (by decide) (by decide) (by decide) (by decide) ?_
    have e1 : us_up1 KD KS (t, f, x, y) = [(t, f + 1, x, KS (2 * t + f - 1))] := by simp [us_up1, kk3]
    rw [e1] at hk
    simp only [List.length_cons, List.length_nil] at hk
    refine lv_aload_n hx hb d_Rules_step_123 rfl (lv_at hl 3 rfl) ?_
    refine va_get (D := (dC, dI)) (ci := 5) (v := .ref gh) (C := "UpcastStreams$Rules") (T := F_Rules) (N := 4) hx hb hts in_Rules hown hK hP 0 rfl rfl 2 (by decide) (hts _ uw_1_110) (fun _ h9 => h9) rfl d_Rules_step_124 ?_
    refine lv_iload_n hx hb d_Rules_step_127 rfl (lv_at hl 4 rfl) ?_
    refine lv_iload hx hb d_Rules_step_128 (lv_at hl 0 rfl) ?_
    refine lv_iload_n hx hb d_Rules_step_130 rfl (lv_at hl 6 rfl) ?_
    refine lv_iload hx hb d_Rules_step_131 (lv_at hl 1 rfl) ?_
    refine us_callV (q0 := 3) (As := [.int (nI t), .int (nI (f + 1)), .int x, .int (KS (2 * t + f - 1))]) (rest := []) ⟨hx, hb, hml, hown, hts⟩ (c_Row_put zl dC dI cI cL cS cR gh gt gf ga gb 4 n gT gF gU gV (nI t) (nI (f + 1)) x (KS (2 * t + f - 1)) (by omega) (by decide)) (cwV 4 hts (us_gV uw_2_206 uw_2_12 uw_2_13 uw_1_3 k_Row_put) rfl rfl rfl h_Row_put ⟨by decide, by decide⟩) hK hP hD hS hA [3, 4, 5, 6, 7] rfl (by decide) (fun _ => Nat.le_of_ble_eq_true rfl) rfl rfl rfl hl.1 rfl (Nat.le_of_ble_eq_true rfl) d_Rules_step_133 ⟨by decide, by decide⟩ (fun u H locs w133 hP hD hS => ?_)
    have hP : va_P (dC, dI) vwCl [(h, .inr (5, [.ref kd, .ref ks, .ref gh, .ref oh])), (kd, .inl (cI, 12, .inl KD)), (ks, .inl (cI, 12, .inl KS)), (gh, .inr (0, [.ref gt, .ref gf, .ref ga, .ref gb, .int (nI (n + 1))])), (gt, .inl (cI, 4, .inl (upd gT n (nI t)))), (gf, .inl (cI, 4, .inl (upd gF n (nI (f + 1))))), (ga, .inl (cI, 4, .inl (upd gU n x))), (gb, .inl (cI, 4, .inl (upd gV n (KS (2 * t + f - 1)))))] H := hP
    have hD : va_D zA [(h, .inr (5, [.ref kd, .ref ks, .ref gh, .ref oh])), (kd, .inl (cI, 12, .inl KD)), (ks, .inl (cI, 12, .inl KS)), (gh, .inr (0, [.ref gt, .ref gf, .ref ga, .ref gb, .int (nI (n + 1))])), (gt, .inl (cI, 4, .inl (upd gT n (nI t)))), (gf, .inl (cI, 4, .inl (upd gF n (nI (f + 1))))), (ga, .inl (cI, 4, .inl (upd gU n x))), (gb, .inl (cI, 4, .inl (upd gV n (KS (2 * t + f - 1)))))] := hD
    try dsimp only at w133
    refine W.eq (g2 := F0 zm 136 ls []) rfl ?_
    refine lv_goto (tgt := 195) hx hb d_Rules_step_136 (by decide) ?_
    exact us_vret hQ (by decide) (by decide) hx hb hr hlk hK hS ((upd gT n (nI t)), (upd gF n (nI (f + 1))), (upd gU n x), (upd gV n (KS (2 * t + f - 1))), (n + 1)) rfl (⟨by rw [e1]; exact us_row_put hrow _ hn, by rw [e1]; rfl⟩) hP hD d_Rules_step_195
  by_cases kk4 : KD (2 * t + f - 1) = (4 : Int32)
  · refine us_top (show KD (2 * t + f - 1) = (4 : Int32) from kk4) ?_
    refine lv_tableIn (off := (111 : Int)) (tgt := 139) hx hb d_Rules_step_28 (by decide) (by decide) (by decide) (by decide) ?_
    have e1 : us_up1 KD KS (t, f, x, y) = [(t, f + 1, x >>> 1, y), (t, f + 1, x - x >>> 1, y)] := by simp [us_up1, kk4]
    rw [e1] at hk
    simp only [List.length_cons, List.length_nil] at hk
    refine lv_aload_n hx hb d_Rules_step_139 rfl (lv_at hl 3 rfl) ?_
    refine va_get (D := (dC, dI)) (ci := 5) (v := .ref gh) (C := "UpcastStreams$Rules") (T := F_Rules) (N := 4) hx hb hts in_Rules hown hK hP 0 rfl rfl 2 (by decide) (hts _ uw_1_110) (fun _ h9 => h9) rfl d_Rules_step_140 ?_
    refine lv_iload_n hx hb d_Rules_step_143 rfl (lv_at hl 4 rfl) ?_
    refine lv_iload hx hb d_Rules_step_144 (lv_at hl 0 rfl) ?_
    refine lv_iload_n hx hb d_Rules_step_146 rfl (lv_at hl 6 rfl) ?_
    refine lv_iconst (v := (2 : Int32)) hx hb d_Rules_step_147 (by decide) ?_
    refine us_callS (As := [.int x, .int (2 : Int32)]) (rest := [.int (nI (f + 1)), .int (nI t), .ref gh]) ⟨hx, hb, hml, hown, hts⟩ (c_Math_floorDiv zl dC dI cI cL cS cR x ) ⟨callB_of 2 hts (us_gC k_Math_floorDiv) rfl rfl rfl (hts _ uw_1_2) (hts _ uw_2_207) h_Math_floorDiv.2 ⟨by decide, by decide⟩, (hts _ uw_2_208)⟩ hK hP hD hS hA [] rfl (by decide) (fun _ => Nat.le_of_ble_eq_true rfl) rfl hl.1 rfl (Nat.le_of_ble_eq_true rfl) d_Rules_step_148 ⟨by decide, by decide⟩ (fun u H locs w148 hP hD hS => ?_)
    have hP : va_P (dC, dI) vwCl [(h, .inr (5, [.ref kd, .ref ks, .ref gh, .ref oh])), (kd, .inl (cI, 12, .inl KD)), (ks, .inl (cI, 12, .inl KS)), (gh, .inr (0, [.ref gt, .ref gf, .ref ga, .ref gb, .int (nI n)])), (gt, .inl (cI, 4, .inl gT)), (gf, .inl (cI, 4, .inl gF)), (ga, .inl (cI, 4, .inl gU)), (gb, .inl (cI, 4, .inl gV))] H := hP
    have hD : va_D zA [(h, .inr (5, [.ref kd, .ref ks, .ref gh, .ref oh])), (kd, .inl (cI, 12, .inl KD)), (ks, .inl (cI, 12, .inl KS)), (gh, .inr (0, [.ref gt, .ref gf, .ref ga, .ref gb, .int (nI n)])), (gt, .inl (cI, 4, .inl gT)), (gf, .inl (cI, 4, .inl gF)), (ga, .inl (cI, 4, .inl gU)), (gb, .inl (cI, 4, .inl gV))] := hD
    try dsimp only at w148
    refine W.eq (g2 := F0 zm 151 ls [.int (x >>> (1 : Int32)), .int (nI (f + 1)), .int (nI t), .ref gh]) rfl ?_
    refine lv_iload hx hb d_Rules_step_151 (lv_at hl 7 rfl) ?_
    refine us_callV (q0 := 3) (As := [.int (nI t), .int (nI (f + 1)), .int (x >>> (1 : Int32)), .int y]) (rest := []) ⟨hx, hb, hml, hown, hts⟩ (c_Row_put zl dC dI cI cL cS cR gh gt gf ga gb 4 n gT gF gU gV (nI t) (nI (f + 1)) (x >>> (1 : Int32)) y (by omega) (by decide)) (cwV 4 hts (us_gV uw_2_206 uw_2_12 uw_2_13 uw_1_3 k_Row_put) rfl rfl rfl h_Row_put ⟨by decide, by decide⟩) hK hP hD hS hA [3, 4, 5, 6, 7] rfl (by decide) (fun _ => Nat.le_of_ble_eq_true rfl) rfl rfl rfl hl.1 rfl (Nat.le_of_ble_eq_true rfl) d_Rules_step_153 ⟨by decide, by decide⟩ (fun u H locs w153 hP hD hS => ?_)
    have hP : va_P (dC, dI) vwCl [(h, .inr (5, [.ref kd, .ref ks, .ref gh, .ref oh])), (kd, .inl (cI, 12, .inl KD)), (ks, .inl (cI, 12, .inl KS)), (gh, .inr (0, [.ref gt, .ref gf, .ref ga, .ref gb, .int (nI (n + 1))])), (gt, .inl (cI, 4, .inl (upd gT n (nI t)))), (gf, .inl (cI, 4, .inl (upd gF n (nI (f + 1))))), (ga, .inl (cI, 4, .inl (upd gU n (x >>> (1 : Int32))))), (gb, .inl (cI, 4, .inl (upd gV n y)))] H := hP
    have hD : va_D zA [(h, .inr (5, [.ref kd, .ref ks, .ref gh, .ref oh])), (kd, .inl (cI, 12, .inl KD)), (ks, .inl (cI, 12, .inl KS)), (gh, .inr (0, [.ref gt, .ref gf, .ref ga, .ref gb, .int (nI (n + 1))])), (gt, .inl (cI, 4, .inl (upd gT n (nI t)))), (gf, .inl (cI, 4, .inl (upd gF n (nI (f + 1))))), (ga, .inl (cI, 4, .inl (upd gU n (x >>> (1 : Int32))))), (gb, .inl (cI, 4, .inl (upd gV n y)))] := hD
    try dsimp only at w153
    refine W.eq (g2 := F0 zm 156 ls []) rfl ?_
    refine lv_aload_n hx hb d_Rules_step_156 rfl (lv_at hl 3 rfl) ?_
    refine va_get (D := (dC, dI)) (ci := 5) (v := .ref gh) (C := "UpcastStreams$Rules") (T := F_Rules) (N := 4) hx hb hts in_Rules hown hK hP 0 rfl rfl 2 (by decide) (hts _ uw_1_110) (fun _ h9 => h9) rfl d_Rules_step_157 ?_
    refine lv_iload_n hx hb d_Rules_step_160 rfl (lv_at hl 4 rfl) ?_
    refine lv_iload hx hb d_Rules_step_161 (lv_at hl 0 rfl) ?_
    refine lv_iload_n hx hb d_Rules_step_163 rfl (lv_at hl 6 rfl) ?_
    refine lv_iload_n hx hb d_Rules_step_164 rfl (lv_at hl 6 rfl) ?_
    refine lv_iconst (v := (2 : Int32)) hx hb d_Rules_step_165 (by decide) ?_
    refine us_callS (As := [.int x, .int (2 : Int32)]) (rest := [.int x, .int (nI (f + 1)), .int (nI t), .ref gh]) ⟨hx, hb, hml, hown, hts⟩ (c_Math_floorDiv zl dC dI cI cL cS cR x ) ⟨callB_of 2 hts (us_gC k_Math_floorDiv) rfl rfl rfl (hts _ uw_1_2) (hts _ uw_2_207) h_Math_floorDiv.2 ⟨by decide, by decide⟩, (hts _ uw_2_208)⟩ hK hP hD hS hA [] rfl (by decide) (fun _ => Nat.le_of_ble_eq_true rfl) rfl hl.1 rfl (Nat.le_of_ble_eq_true rfl) d_Rules_step_166 ⟨by decide, by decide⟩ (fun u H locs w166 hP hD hS => ?_)
    have hP : va_P (dC, dI) vwCl [(h, .inr (5, [.ref kd, .ref ks, .ref gh, .ref oh])), (kd, .inl (cI, 12, .inl KD)), (ks, .inl (cI, 12, .inl KS)), (gh, .inr (0, [.ref gt, .ref gf, .ref ga, .ref gb, .int (nI (n + 1))])), (gt, .inl (cI, 4, .inl (upd gT n (nI t)))), (gf, .inl (cI, 4, .inl (upd gF n (nI (f + 1))))), (ga, .inl (cI, 4, .inl (upd gU n (x >>> (1 : Int32))))), (gb, .inl (cI, 4, .inl (upd gV n y)))] H := hP
    have hD : va_D zA [(h, .inr (5, [.ref kd, .ref ks, .ref gh, .ref oh])), (kd, .inl (cI, 12, .inl KD)), (ks, .inl (cI, 12, .inl KS)), (gh, .inr (0, [.ref gt, .ref gf, .ref ga, .ref gb, .int (nI (n + 1))])), (gt, .inl (cI, 4, .inl (upd gT n (nI t)))), (gf, .inl (cI, 4, .inl (upd gF n (nI (f + 1))))), (ga, .inl (cI, 4, .inl (upd gU n (x >>> (1 : Int32))))), (gb, .inl (cI, 4, .inl (upd gV n y)))] := hD
    try dsimp only at w166
    refine W.eq (g2 := F0 zm 169 ls [.int (x >>> (1 : Int32)), .int x, .int (nI (f + 1)), .int (nI t), .ref gh]) rfl ?_
    refine lv_isub hx hb d_Rules_step_169 ?_
    refine lv_iload hx hb d_Rules_step_170 (lv_at hl 7 rfl) ?_
    refine us_callV (q0 := 3) (As := [.int (nI t), .int (nI (f + 1)), .int (x - (x >>> (1 : Int32))), .int y]) (rest := []) ⟨hx, hb, hml, hown, hts⟩ (c_Row_put zl dC dI cI cL cS cR gh gt gf ga gb 4 (n + 1) (upd gT n (nI t)) (upd gF n (nI (f + 1))) (upd gU n (x >>> (1 : Int32))) (upd gV n y) (nI t) (nI (f + 1)) (x - (x >>> (1 : Int32))) y (by omega) (by decide)) (cwV 4 hts (us_gV uw_2_206 uw_2_12 uw_2_13 uw_1_3 k_Row_put) rfl rfl rfl h_Row_put ⟨by decide, by decide⟩) hK hP hD hS hA [3, 4, 5, 6, 7] rfl (by decide) (fun _ => Nat.le_of_ble_eq_true rfl) rfl rfl rfl hl.1 rfl (Nat.le_of_ble_eq_true rfl) d_Rules_step_172 ⟨by decide, by decide⟩ (fun u H locs w172 hP hD hS => ?_)
    have hP : va_P (dC, dI) vwCl [(h, .inr (5, [.ref kd, .ref ks, .ref gh, .ref oh])), (kd, .inl (cI, 12, .inl KD)), (ks, .inl (cI, 12, .inl KS)), (gh, .inr (0, [.ref gt, .ref gf, .ref ga, .ref gb, .int (nI ((n + 1) + 1))])), (gt, .inl (cI, 4, .inl (upd (upd gT n (nI t)) (n + 1) (nI t)))), (gf, .inl (cI, 4, .inl (upd (upd gF n (nI (f + 1))) (n + 1) (nI (f + 1))))), (ga, .inl (cI, 4, .inl (upd (upd gU n (x >>> (1 : Int32))) (n + 1) (x - (x >>> (1 : Int32)))))), (gb, .inl (cI, 4, .inl (upd (upd gV n y) (n + 1) y)))] H := hP
    have hD : va_D zA [(h, .inr (5, [.ref kd, .ref ks, .ref gh, .ref oh])), (kd, .inl (cI, 12, .inl KD)), (ks, .inl (cI, 12, .inl KS)), (gh, .inr (0, [.ref gt, .ref gf, .ref ga, .ref gb, .int (nI ((n + 1) + 1))])), (gt, .inl (cI, 4, .inl (upd (upd gT n (nI t)) (n + 1) (nI t)))), (gf, .inl (cI, 4, .inl (upd (upd gF n (nI (f + 1))) (n + 1) (nI (f + 1))))), (ga, .inl (cI, 4, .inl (upd (upd gU n (x >>> (1 : Int32))) (n + 1) (x - (x >>> (1 : Int32)))))), (gb, .inl (cI, 4, .inl (upd (upd gV n y) (n + 1) y)))] := hD
    try dsimp only at w172
    refine W.eq (g2 := F0 zm 175 ls []) rfl ?_
    refine lv_goto (tgt := 195) hx hb d_Rules_step_175 (by decide) ?_
    exact us_vret hQ (by decide) (by decide) hx hb hr hlk hK hS ((upd (upd gT n (nI t)) (n + 1) (nI t)), (upd (upd gF n (nI (f + 1))) (n + 1) (nI (f + 1))), (upd (upd gU n (x >>> (1 : Int32))) (n + 1) (x - (x >>> (1 : Int32)))), (upd (upd gV n y) (n + 1) y), ((n + 1) + 1)) rfl (⟨by rw [e1]; have q := us_row_put (us_row_put hrow (t, f + 1, x >>> 1, y) hn) (t, f + 1, x - x >>> 1, y) (n := n + 1) (by simp [hn]); rw [List.append_assoc] at q; exact q, by rw [e1]; rfl⟩) hP hD d_Rules_step_195
  by_cases kk5 : KD (2 * t + f - 1) = (5 : Int32)
  · refine us_top (show KD (2 * t + f - 1) = (5 : Int32) from kk5) ?_
    refine lv_tableIn (off := (150 : Int)) (tgt := 178) hx hb d_Rules_step_28 (by decide) (by decide) (by decide) (by decide) ?_
    have e1 : us_up1 KD KS (t, f, x, y) = [((KS (2 * t + f - 1)).toNatClampNeg, f + 1, x, y)] := by simp [us_up1, kk5]
    rw [e1] at hk
    simp only [List.length_cons, List.length_nil] at hk
    obtain ⟨k0, hk0, hks⟩ := hR _ (by omega) kk5
    have hkc : nI (KS (2 * t + f - 1)).toNatClampNeg = KS (2 * t + f - 1) := by rw [hks, nI_clamp (by omega)]
    refine lv_aload_n hx hb d_Rules_step_178 rfl (lv_at hl 3 rfl) ?_
    refine va_get (D := (dC, dI)) (ci := 5) (v := .ref gh) (C := "UpcastStreams$Rules") (T := F_Rules) (N := 4) hx hb hts in_Rules hown hK hP 0 rfl rfl 2 (by decide) (hts _ uw_1_110) (fun _ h9 => h9) rfl d_Rules_step_179 ?_
    refine lv_iload hx hb d_Rules_step_182 (lv_at hl 1 rfl) ?_
    refine lv_iload hx hb d_Rules_step_184 (lv_at hl 0 rfl) ?_
    refine lv_iload_n hx hb d_Rules_step_186 rfl (lv_at hl 6 rfl) ?_
    refine lv_iload hx hb d_Rules_step_187 (lv_at hl 7 rfl) ?_
    refine us_callV (q0 := 3) (As := [.int (KS (2 * t + f - 1)), .int (nI (f + 1)), .int x, .int y]) (rest := []) ⟨hx, hb, hml, hown, hts⟩ (c_Row_put zl dC dI cI cL cS cR gh gt gf ga gb 4 n gT gF gU gV (KS (2 * t + f - 1)) (nI (f + 1)) x y (by omega) (by decide)) (cwV 4 hts (us_gV uw_2_206 uw_2_12 uw_2_13 uw_1_3 k_Row_put) rfl rfl rfl h_Row_put ⟨by decide, by decide⟩) hK hP hD hS hA [3, 4, 5, 6, 7] rfl (by decide) (fun _ => Nat.le_of_ble_eq_true rfl) rfl rfl rfl hl.1 rfl (Nat.le_of_ble_eq_true rfl) d_Rules_step_189 ⟨by decide, by decide⟩ (fun u H locs w189 hP hD hS => ?_)
    have hP : va_P (dC, dI) vwCl [(h, .inr (5, [.ref kd, .ref ks, .ref gh, .ref oh])), (kd, .inl (cI, 12, .inl KD)), (ks, .inl (cI, 12, .inl KS)), (gh, .inr (0, [.ref gt, .ref gf, .ref ga, .ref gb, .int (nI (n + 1))])), (gt, .inl (cI, 4, .inl (upd gT n (KS (2 * t + f - 1))))), (gf, .inl (cI, 4, .inl (upd gF n (nI (f + 1))))), (ga, .inl (cI, 4, .inl (upd gU n x))), (gb, .inl (cI, 4, .inl (upd gV n y)))] H := hP
    have hD : va_D zA [(h, .inr (5, [.ref kd, .ref ks, .ref gh, .ref oh])), (kd, .inl (cI, 12, .inl KD)), (ks, .inl (cI, 12, .inl KS)), (gh, .inr (0, [.ref gt, .ref gf, .ref ga, .ref gb, .int (nI (n + 1))])), (gt, .inl (cI, 4, .inl (upd gT n (KS (2 * t + f - 1))))), (gf, .inl (cI, 4, .inl (upd gF n (nI (f + 1))))), (ga, .inl (cI, 4, .inl (upd gU n x))), (gb, .inl (cI, 4, .inl (upd gV n y)))] := hD
    try dsimp only at w189
    refine W.eq (g2 := F0 zm 192 ls []) rfl ?_
    refine lv_goto (tgt := 195) hx hb d_Rules_step_192 (by decide) ?_
    exact us_vret hQ (by decide) (by decide) hx hb hr hlk hK hS ((upd gT n (KS (2 * t + f - 1))), (upd gF n (nI (f + 1))), (upd gU n x), (upd gV n y), (n + 1)) rfl (⟨by rw [e1]; have q := us_row_put hrow ((KS (2 * t + f - 1)).toNatClampNeg, f + 1, x, y) hn; rw [hkc] at q; exact q, by rw [e1]; rfl⟩) hP hD d_Rules_step_195
  by_cases kk6 : KD (2 * t + f - 1) = (6 : Int32)
  · refine us_top (show KD (2 * t + f - 1) = (6 : Int32) from kk6) ?_
    refine lv_tableIn (off := (167 : Int)) (tgt := 195) hx hb d_Rules_step_28 (by decide) (by decide) (by decide) (by decide) ?_
    exact us_vret hQ (by decide) (by decide) hx hb hr hlk hK hS (gT, gF, gU, gV, n) rfl (⟨us_nilrow hrow (by simp_all [us_up1]), us_nillen (by simp_all [us_up1])⟩) hP hD d_Rules_step_195
  have kk0t := lv_neT kk0 (a := 0) (by decide)
  have kk1t := lv_neT kk1 (a := 1) (by decide)
  have kk2t := lv_neT kk2 (a := 2) (by decide)
  have kk3t := lv_neT kk3 (a := 3) (by decide)
  have kk4t := lv_neT kk4 (a := 4) (by decide)
  have kk5t := lv_neT kk5 (a := 5) (by decide)
  have kk6t := lv_neT kk6 (a := 6) (by decide)
  refine lv_tableOut (tgt := 195) hx hb d_Rules_step_28 (by omega) (by decide) ?_
  exact us_vret hQ (by decide) (by decide) hx hb hr hlk hK hS (gT, gF, gU, gV, n) rfl (⟨us_nilrow hrow (by simp_all [us_up1]), us_nillen (by simp_all [us_up1])⟩) hP hD d_Rules_step_195
