set_option maxHeartbeats 4000000 in
set_option maxRecDepth 100000 in
theorem t_X_stored (zl : Launch) (dC : Nat → ClassId) (dI : Nat → Nat → Nat) (cI cL cS cR : ClassId) (htr : ∀ e : Env, zl.admits e → e.platform.stackTraces = false) (x : Nat) (uh : Nat) (jh : Nat) (rh : Nat) (sa : Nat) (ra : Nat) (th : Nat) (lo : Nat) (tr : Nat) (pe : Int32) (vh : Nat) (vt : Nat) (vf : Nat) (va : Nat) (vb : Nat) (js : Nat) (jn : Nat) (jv : Nat) (n : Nat) (y : Int32) (z : Int32) (hbad : ¬ ((0 ≤ y ∧ y < nI n) ∧ 0 ≤ z ∧ z < 6)) : us_TMet zl y_X_stored w_X_stored ({ frames := 6, cells := 1, slots := 6, locals := 90 }) (dC, dI) vwCl (us_ty cI cL cS cR) us_E [.ref x, .int y, .int z] [(x, .inr (7, [.int pe, .ref uh, .ref jh, .ref rh, .ref sa, .ref ra, .ref th, .ref lo, .ref tr])), (jh, .inr (3, [.ref vh, .ref js, .ref jn, .ref jv])), (vh, .inr (0, [.ref vt, .ref vf, .ref va, .ref vb, .int (nI n)]))] "java/util/NoSuchElementException" := by
  refine us_ofTT (cc := b_X_stored) (maxL := 3) (ret := (some .int)) (by decide) (Nat.le_of_ble_eq_true rfl) ?_
  intro zp ze zs zm args below meth zc zA ls had hx hb hml hno hts hown hlk hl hK hE hP hS hA hA2
  have hown : zs.vm.findClass "UpcastStreams" = some zm.cls := hown
  have hl : lv_has ls 3 [(0, .ref x), (1, .int y), (2, .int z)] := hl
  obtain ⟨H, hH⟩ : ∃ H, H = zs.heap := ⟨_, rfl⟩
  rw [← hH] at hP ⊢
  have hS : va_S zA zs.heap H [] := hH ▸ hS
  generalize ([] : List Loc) = locs at hS ⊢
  refine lv_aload_n hx hb d_X_stored_0 rfl (lv_at hl 0 rfl) ?_
  refine lv_iload_n hx hb d_X_stored_1 rfl (lv_at hl 1 rfl) ?_
  refine us_callRV (q0 := 0) (As := [.int y]) (rest := []) ⟨hx, hb, hml, hown, hts⟩ (c_X_isStored zl dC dI cI cL cS cR x uh jh rh sa ra th lo tr pe vh vt vf va vb js jn jv n y ) (cwV 1 hts (us_gV uw_3_12 uw_3_14 uw_p_9 uw_1_1 k_X_isStored) rfl rfl rfl h_X_isStored ⟨by decide, by decide⟩) hK hP hS hA [0, 1, 2] rfl rfl rfl rfl hl.1 rfl (Nat.le_of_ble_eq_true rfl) d_X_stored_2 ⟨by decide, by decide⟩ (fun u H locs w2 hP hS => ?_)
  obtain ⟨r2, rfl⟩ : ∃ z, z = u := ⟨_, rfl⟩
  try dsimp only at w2
  refine W.eq (g2 := F0 zm 5 ls [.int r2]) rfl ?_
  refine lv_if_eq (tgt := 18) hx hb d_X_stored_5 (by decide) (fun c5 => ?_) (fun c5 => ?_)
  · exact us_throw (names := ["java/lang/RuntimeException", "java/lang/Exception"]) (htr _ had) hx hb hlk hown (hl.1.trans hml.symm) hno hS hA2 (us_at_NoSuchElementException hts hE) (by decide +kernel) (by decide +kernel) (hts _ uw_3_16) (hts _ uw_1_17) (by decide) (Nat.le_of_ble_eq_true rfl) (by decide) (by decide) d_X_stored_18 d_X_stored_21 d_X_stored_22 d_X_stored_25
  · refine lv_iload_n hx hb d_X_stored_8 rfl (lv_at hl 2 rfl) ?_
    refine lv_if_lt (tgt := 18) hx hb d_X_stored_9 (by decide) (fun c9 => ?_) (fun c9 => ?_)
    · exact us_throw (names := ["java/lang/RuntimeException", "java/lang/Exception"]) (htr _ had) hx hb hlk hown (hl.1.trans hml.symm) hno hS hA2 (us_at_NoSuchElementException hts hE) (by decide +kernel) (by decide +kernel) (hts _ uw_3_16) (hts _ uw_1_17) (by decide) (Nat.le_of_ble_eq_true rfl) (by decide) (by decide) d_X_stored_18 d_X_stored_21 d_X_stored_22 d_X_stored_25
    · refine lv_iload_n hx hb d_X_stored_12 rfl (lv_at hl 2 rfl) ?_
      refine lv_bipush (v := (6 : Int32)) hx hb d_X_stored_13 (by decide) ?_
      refine lv_icmp_lt (tgt := 26) hx hb d_X_stored_15 (by decide) (fun h => absurd ⟨us_d1 w2 c5, Int32.not_lt.mp c9, h⟩ hbad) (fun c3 => ?_)
      exact us_throw (names := ["java/lang/RuntimeException", "java/lang/Exception"]) (htr _ had) hx hb hlk hown (hl.1.trans hml.symm) hno hS hA2 (us_at_NoSuchElementException hts hE) (by decide +kernel) (by decide +kernel) (hts _ uw_3_16) (hts _ uw_1_17) (by decide) (Nat.le_of_ble_eq_true rfl) (by decide) (by decide) d_X_stored_18 d_X_stored_21 d_X_stored_22 d_X_stored_25

set_option maxHeartbeats 4000000 in
set_option maxRecDepth 100000 in
theorem t_X_comes (zl : Launch) (dC : Nat → ClassId) (dI : Nat → Nat → Nat) (cI cL cS cR : ClassId) (htr : ∀ e : Env, zl.admits e → e.platform.stackTraces = false) (x : Nat) (uh : Nat) (jh : Nat) (rh : Nat) (sa : Nat) (ra : Nat) (th : Nat) (lo : Nat) (tr : Nat) (pe : Int32) (vh : Nat) (vt : Nat) (vf : Nat) (va : Nat) (vb : Nat) (js : Nat) (jn : Nat) (jv : Nat) (n : Nat) (y : Int32) (hbad : ¬ (0 ≤ y ∧ y < nI n)) : us_TMet zl y_X_comes w_X_comes ({ frames := 6, cells := 1, slots := 6, locals := 90 }) (dC, dI) vwCl (us_ty cI cL cS cR) us_E [.ref x, .int y] [(x, .inr (7, [.int pe, .ref uh, .ref jh, .ref rh, .ref sa, .ref ra, .ref th, .ref lo, .ref tr])), (jh, .inr (3, [.ref vh, .ref js, .ref jn, .ref jv])), (vh, .inr (0, [.ref vt, .ref vf, .ref va, .ref vb, .int (nI n)]))] "java/util/NoSuchElementException" := by
  refine us_ofTT (cc := b_X_comes) (maxL := 2) (ret := (some .int)) (by decide) (Nat.le_of_ble_eq_true rfl) ?_
  intro zp ze zs zm args below meth zc zA ls had hx hb hml hno hts hown hlk hl hK hE hP hS hA hA2
  have hown : zs.vm.findClass "UpcastStreams" = some zm.cls := hown
  have hl : lv_has ls 2 [(0, .ref x), (1, .int y)] := hl
  obtain ⟨H, hH⟩ : ∃ H, H = zs.heap := ⟨_, rfl⟩
  rw [← hH] at hP ⊢
  have hS : va_S zA zs.heap H [] := hH ▸ hS
  generalize ([] : List Loc) = locs at hS ⊢
  refine lv_aload_n hx hb d_X_comes_0 rfl (lv_at hl 0 rfl) ?_
  refine lv_iload_n hx hb d_X_comes_1 rfl (lv_at hl 1 rfl) ?_
  refine us_callRV (q0 := 0) (As := [.int y]) (rest := []) ⟨hx, hb, hml, hown, hts⟩ (c_X_isStored zl dC dI cI cL cS cR x uh jh rh sa ra th lo tr pe vh vt vf va vb js jn jv n y ) (cwV 1 hts (us_gV uw_3_12 uw_3_14 uw_p_9 uw_1_1 k_X_isStored) rfl rfl rfl h_X_isStored ⟨by decide, by decide⟩) hK hP hS hA [0, 1, 2] rfl rfl rfl rfl hl.1 rfl (Nat.le_of_ble_eq_true rfl) d_X_comes_2 ⟨by decide, by decide⟩ (fun u H locs w2 hP hS => ?_)
  obtain ⟨r2, rfl⟩ : ∃ z, z = u := ⟨_, rfl⟩
  try dsimp only at w2
  refine W.eq (g2 := F0 zm 5 ls [.int r2]) rfl ?_
  refine lv_if_ne (tgt := 16) hx hb d_X_comes_5 (by decide) (fun h => absurd (us_d1 w2 h) hbad) (fun c1 => ?_)
  exact us_throw (names := ["java/lang/RuntimeException", "java/lang/Exception"]) (htr _ had) hx hb hlk hown (hl.1.trans hml.symm) hno hS hA2 (us_at_NoSuchElementException hts hE) (by decide +kernel) (by decide +kernel) (hts _ uw_3_16) (hts _ uw_1_17) (by decide) (Nat.le_of_ble_eq_true rfl) (by decide) (by decide) d_X_comes_8 d_X_comes_11 d_X_comes_12 d_X_comes_15

set_option maxHeartbeats 4000000 in
set_option maxRecDepth 100000 in
theorem t_X_learn (zl : Launch) (dC : Nat → ClassId) (dI : Nat → Nat → Nat) (cI cL cS cR : ClassId) (htr : ∀ e : Env, zl.admits e → e.platform.stackTraces = false) (x : Nat) (uh : Nat) (jh : Nat) (rh : Nat) (sa : Nat) (ra : Nat) (th : Nat) (lo : Nat) (tr : Nat) (pe : Int32) (t : Int32) (f : Int32) (q : Int32) (y : Int32) (hbad : ¬ ((0 ≤ t ∧ t < 6) ∧ 1 ≤ f ∧ f < 3 ∧ 0 ≤ q ∧ q ≤ 6 ∧ (q = 5 → 0 ≤ y ∧ y < 6))) : us_TMet zl y_X_learn w_X_learn ({ frames := 6, cells := 1, slots := 6, locals := 90 }) (dC, dI) vwCl (us_ty cI cL cS cR) us_E [.ref x, .int t, .int f, .int q, .int y] [(x, .inr (7, [.int pe, .ref uh, .ref jh, .ref rh, .ref sa, .ref ra, .ref th, .ref lo, .ref tr]))] "java/lang/IllegalArgumentException" := by
  refine us_ofTT (cc := b_X_learn) (maxL := 6) (ret := none) (by decide) (Nat.le_of_ble_eq_true rfl) ?_
  intro zp ze zs zm args below meth zc zA ls had hx hb hml hno hts hown hlk hl hK hE hP hS hA hA2
  have hown : zs.vm.findClass "UpcastStreams" = some zm.cls := hown
  have hl : lv_has ls 6 [(0, .ref x), (1, .int t), (2, .int f), (3, .int q), (4, .int y)] := hl
  obtain ⟨H, hH⟩ : ∃ H, H = zs.heap := ⟨_, rfl⟩
  rw [← hH] at hP ⊢
  have hS : va_S zA zs.heap H [] := hH ▸ hS
  generalize ([] : List Loc) = locs at hS ⊢
  refine lv_iload_n hx hb d_X_learn_0 rfl (lv_at hl 1 rfl) ?_
  refine us_callRS (As := [.int t]) (rest := []) ⟨hx, hb, hml, hown, hts⟩ (c_X_isType zl dC dI cI cL cS cR t ) ⟨callB_of 1 hts (us_gC k_X_isType) rfl rfl rfl (hts _ uw_1_1) (hts _ uw_2_8) h_X_isType.2 ⟨by decide, by decide⟩, (hts _ uw_2_9)⟩ hK hP hS hA [] rfl rfl hl.1 rfl (Nat.le_of_ble_eq_true rfl) d_X_learn_1 ⟨by decide, by decide⟩ (fun u H locs w1 hP hS => ?_)
  obtain ⟨r1, rfl⟩ : ∃ z, z = u := ⟨_, rfl⟩
  try dsimp only at w1
  refine W.eq (g2 := F0 zm 4 ls [.int r1]) rfl ?_
  refine lv_if_eq (tgt := 17) hx hb d_X_learn_4 (by decide) (fun c4 => ?_) (fun c4 => ?_)
  · exact us_throw (names := ["java/lang/RuntimeException", "java/lang/Exception"]) (htr _ had) hx hb hlk hown (hl.1.trans hml.symm) hno hS hA2 (us_at_IllegalArgumentException hts hE) (by decide +kernel) (by decide +kernel) (hts _ uw_2_71) (hts _ uw_1_14) (by decide) (Nat.le_of_ble_eq_true rfl) (by decide) (by decide) d_X_learn_17 d_X_learn_20 d_X_learn_21 d_X_learn_24
  · refine lv_iload_n hx hb d_X_learn_7 rfl (lv_at hl 2 rfl) ?_
    refine lv_iconst (v := (1 : Int32)) hx hb d_X_learn_8 (by decide) ?_
    refine lv_icmp_lt (tgt := 17) hx hb d_X_learn_9 (by decide) (fun c9 => ?_) (fun c9 => ?_)
    · exact us_throw (names := ["java/lang/RuntimeException", "java/lang/Exception"]) (htr _ had) hx hb hlk hown (hl.1.trans hml.symm) hno hS hA2 (us_at_IllegalArgumentException hts hE) (by decide +kernel) (by decide +kernel) (hts _ uw_2_71) (hts _ uw_1_14) (by decide) (Nat.le_of_ble_eq_true rfl) (by decide) (by decide) d_X_learn_17 d_X_learn_20 d_X_learn_21 d_X_learn_24
    · refine lv_iload_n hx hb d_X_learn_12 rfl (lv_at hl 2 rfl) ?_
      refine lv_iconst (v := (3 : Int32)) hx hb d_X_learn_13 (by decide) ?_
      refine lv_icmp_lt (tgt := 25) hx hb d_X_learn_14 (by decide) (fun c14 => ?_) (fun c14 => ?_)
      · refine lv_iload_n hx hb d_X_learn_25 rfl (lv_at hl 3 rfl) ?_
        refine lv_if_lt (tgt := 48) hx hb d_X_learn_26 (by decide) (fun c26 => ?_) (fun c26 => ?_)
        · exact us_throw (names := ["java/lang/RuntimeException", "java/lang/Exception"]) (htr _ had) hx hb hlk hown (hl.1.trans hml.symm) hno hS hA2 (us_at_IllegalArgumentException hts hE) (by decide +kernel) (by decide +kernel) (hts _ uw_2_71) (hts _ uw_1_14) (by decide) (Nat.le_of_ble_eq_true rfl) (by decide) (by decide) d_X_learn_48 d_X_learn_51 d_X_learn_52 d_X_learn_55
        · refine lv_iload_n hx hb d_X_learn_29 rfl (lv_at hl 3 rfl) ?_
          refine lv_bipush (v := (6 : Int32)) hx hb d_X_learn_30 (by decide) ?_
          refine lv_icmp_gt (tgt := 48) hx hb d_X_learn_32 (by decide) (fun c32 => ?_) (fun c32 => ?_)
          · exact us_throw (names := ["java/lang/RuntimeException", "java/lang/Exception"]) (htr _ had) hx hb hlk hown (hl.1.trans hml.symm) hno hS hA2 (us_at_IllegalArgumentException hts hE) (by decide +kernel) (by decide +kernel) (hts _ uw_2_71) (hts _ uw_1_14) (by decide) (Nat.le_of_ble_eq_true rfl) (by decide) (by decide) d_X_learn_48 d_X_learn_51 d_X_learn_52 d_X_learn_55
          · refine lv_iload_n hx hb d_X_learn_35 rfl (lv_at hl 3 rfl) ?_
            refine lv_iconst (v := (5 : Int32)) hx hb d_X_learn_36 (by decide) ?_
            refine lv_icmp_ne (tgt := 56) hx hb d_X_learn_37 (by decide) (fun h => absurd ⟨us_d1 w1 c4, Int32.not_lt.mp c9, c14, Int32.not_lt.mp c26, Int32.not_lt.mp c32, fun z => absurd z h⟩ hbad) (fun c37 => ?_)
            refine lv_iload hx hb d_X_learn_40 (lv_at hl 4 rfl) ?_
            refine us_callRS (As := [.int y]) (rest := []) ⟨hx, hb, hml, hown, hts⟩ (c_X_isType zl dC dI cI cL cS cR y ) ⟨callB_of 1 hts (us_gC k_X_isType) rfl rfl rfl (hts _ uw_1_1) (hts _ uw_2_8) h_X_isType.2 ⟨by decide, by decide⟩, (hts _ uw_2_9)⟩ hK hP hS hA [] rfl rfl hl.1 rfl (Nat.le_of_ble_eq_true rfl) d_X_learn_42 ⟨by decide, by decide⟩ (fun u H locs w42 hP hS => ?_)
            obtain ⟨r42, rfl⟩ : ∃ z, z = u := ⟨_, rfl⟩
            try dsimp only at w42
            refine W.eq (g2 := F0 zm 45 ls [.int r42]) rfl ?_
            refine lv_if_ne (tgt := 56) hx hb d_X_learn_45 (by decide) (fun h => absurd ⟨us_d1 w1 c4, Int32.not_lt.mp c9, c14, Int32.not_lt.mp c26, Int32.not_lt.mp c32, fun _ => us_d1 w42 h⟩ hbad) (fun c7 => ?_)
            exact us_throw (names := ["java/lang/RuntimeException", "java/lang/Exception"]) (htr _ had) hx hb hlk hown (hl.1.trans hml.symm) hno hS hA2 (us_at_IllegalArgumentException hts hE) (by decide +kernel) (by decide +kernel) (hts _ uw_2_71) (hts _ uw_1_14) (by decide) (Nat.le_of_ble_eq_true rfl) (by decide) (by decide) d_X_learn_48 d_X_learn_51 d_X_learn_52 d_X_learn_55
      · exact us_throw (names := ["java/lang/RuntimeException", "java/lang/Exception"]) (htr _ had) hx hb hlk hown (hl.1.trans hml.symm) hno hS hA2 (us_at_IllegalArgumentException hts hE) (by decide +kernel) (by decide +kernel) (hts _ uw_2_71) (hts _ uw_1_14) (by decide) (Nat.le_of_ble_eq_true rfl) (by decide) (by decide) d_X_learn_17 d_X_learn_20 d_X_learn_21 d_X_learn_24

set_option maxHeartbeats 4000000 in
set_option maxRecDepth 100000 in
theorem t_X_load1 (zl : Launch) (dC : Nat → ClassId) (dI : Nat → Nat → Nat) (cI cL cS cR : ClassId) (htr : ∀ e : Env, zl.admits e → e.platform.stackTraces = false) (x : Nat) (uh : Nat) (jh : Nat) (rh : Nat) (sa : Nat) (ra : Nat) (th : Nat) (lo : Nat) (tr : Nat) (pe : Int32) (y : Int32) (v : Int32) (hbad : ¬ (0 ≤ y ∧ y < 8)) : us_TMet zl y_X_load w_X_load ({ frames := 6, cells := 1, slots := 6, locals := 90 }) (dC, dI) vwCl (us_ty cI cL cS cR) us_E [.ref x, .int y, .int v] [(x, .inr (7, [.int pe, .ref uh, .ref jh, .ref rh, .ref sa, .ref ra, .ref th, .ref lo, .ref tr]))] "java/lang/IllegalArgumentException" := by
  refine us_ofTT (cc := b_X_load) (maxL := 3) (ret := (some .int)) (by decide) (Nat.le_of_ble_eq_true rfl) ?_
  intro zp ze zs zm args below meth zc zA ls had hx hb hml hno hts hown hlk hl hK hE hP hS hA hA2
  have hown : zs.vm.findClass "UpcastStreams" = some zm.cls := hown
  have hl : lv_has ls 3 [(0, .ref x), (1, .int y), (2, .int v)] := hl
  obtain ⟨H, hH⟩ : ∃ H, H = zs.heap := ⟨_, rfl⟩
  rw [← hH] at hP ⊢
  have hS : va_S zA zs.heap H [] := hH ▸ hS
  generalize ([] : List Loc) = locs at hS ⊢
  refine lv_iload_n hx hb d_X_load_0 rfl (lv_at hl 1 rfl) ?_
  refine us_callRS (As := [.int y]) (rest := []) ⟨hx, hb, hml, hown, hts⟩ (c_X_isStream zl dC dI cI cL cS cR y ) ⟨callB_of 1 hts (us_gC k_X_isStream) rfl rfl rfl (hts _ uw_1_1) (hts _ uw_2_27) h_X_isStream.2 ⟨by decide, by decide⟩, (hts _ uw_2_28)⟩ hK hP hS hA [] rfl rfl hl.1 rfl (Nat.le_of_ble_eq_true rfl) d_X_load_1 ⟨by decide, by decide⟩ (fun u H locs w1 hP hS => ?_)
  obtain ⟨r1, rfl⟩ : ∃ z, z = u := ⟨_, rfl⟩
  try dsimp only at w1
  refine W.eq (g2 := F0 zm 4 ls [.int r1]) rfl ?_
  refine lv_if_eq (tgt := 24) hx hb d_X_load_4 (by decide) (fun c1 => ?_) (fun h => absurd (us_d1 w1 h) hbad)
  exact us_throw (names := ["java/lang/RuntimeException", "java/lang/Exception"]) (htr _ had) hx hb hlk hown (hl.1.trans hml.symm) hno hS hA2 (us_at_IllegalArgumentException hts hE) (by decide +kernel) (by decide +kernel) (hts _ uw_2_71) (hts _ uw_1_14) (by decide) (Nat.le_of_ble_eq_true rfl) (by decide) (by decide) d_X_load_24 d_X_load_27 d_X_load_28 d_X_load_31

set_option maxHeartbeats 4000000 in
set_option maxRecDepth 100000 in
theorem t_X_load2 (zl : Launch) (dC : Nat → ClassId) (dI : Nat → Nat → Nat) (cI cL cS cR : ClassId) (htr : ∀ e : Env, zl.admits e → e.platform.stackTraces = false) (x : Nat) (uh : Nat) (jh : Nat) (rh : Nat) (sa : Nat) (ra : Nat) (th : Nat) (lo : Nat) (tr : Nat) (pe : Int32) (vh : Nat) (js : Nat) (jn : Nat) (jv : Nat) (j : Nat) (Z : Nat → Int32) (v : Int32) (hj : j < 8) (hbad : ¬ (0 ≤ v ∧ v ≤ Z j)) : us_TMet zl y_X_load w_X_load ({ frames := 6, cells := 1, slots := 6, locals := 90 }) (dC, dI) vwCl (us_ty cI cL cS cR) us_E [.ref x, .int (nI j), .int v] [(x, .inr (7, [.int pe, .ref uh, .ref jh, .ref rh, .ref sa, .ref ra, .ref th, .ref lo, .ref tr])), (jh, .inr (3, [.ref vh, .ref js, .ref jn, .ref jv])), (jv, .inl (cI, 8, .inl Z))] "java/lang/IllegalArgumentException" := by
  refine us_ofTT (cc := b_X_load) (maxL := 3) (ret := (some .int)) (by decide) (Nat.le_of_ble_eq_true rfl) ?_
  intro zp ze zs zm args below meth zc zA ls had hx hb hml hno hts hown hlk hl hK hE hP hS hA hA2
  have hown : zs.vm.findClass "UpcastStreams" = some zm.cls := hown
  have hl : lv_has ls 3 [(0, .ref x), (1, .int (nI j)), (2, .int v)] := hl
  obtain ⟨H, hH⟩ : ∃ H, H = zs.heap := ⟨_, rfl⟩
  rw [← hH] at hP ⊢
  have hS : va_S zA zs.heap H [] := hH ▸ hS
  generalize ([] : List Loc) = locs at hS ⊢
  refine lv_iload_n hx hb d_X_load_0 rfl (lv_at hl 1 rfl) ?_
  refine us_callRS (As := [.int (nI j)]) (rest := []) ⟨hx, hb, hml, hown, hts⟩ (c_X_isStream zl dC dI cI cL cS cR (nI j) ) ⟨callB_of 1 hts (us_gC k_X_isStream) rfl rfl rfl (hts _ uw_1_1) (hts _ uw_2_27) h_X_isStream.2 ⟨by decide, by decide⟩, (hts _ uw_2_28)⟩ hK hP hS hA [] rfl rfl hl.1 rfl (Nat.le_of_ble_eq_true rfl) d_X_load_1 ⟨by decide, by decide⟩ (fun u H locs w1 hP hS => ?_)
  obtain ⟨r1, rfl⟩ : ∃ z, z = u := ⟨_, rfl⟩
  try dsimp only at w1
  refine W.eq (g2 := F0 zm 4 ls [.int r1]) rfl ?_
  refine lv_if_eq (tgt := 24) hx hb d_X_load_4 (by decide) (fun c4 => ?_) (fun c4 => ?_)
  · exact us_throw (names := ["java/lang/RuntimeException", "java/lang/Exception"]) (htr _ had) hx hb hlk hown (hl.1.trans hml.symm) hno hS hA2 (us_at_IllegalArgumentException hts hE) (by decide +kernel) (by decide +kernel) (hts _ uw_2_71) (hts _ uw_1_14) (by decide) (Nat.le_of_ble_eq_true rfl) (by decide) (by decide) d_X_load_24 d_X_load_27 d_X_load_28 d_X_load_31
  · refine lv_iload_n hx hb d_X_load_7 rfl (lv_at hl 2 rfl) ?_
    refine lv_if_lt (tgt := 24) hx hb d_X_load_8 (by decide) (fun c8 => ?_) (fun c8 => ?_)
    · exact us_throw (names := ["java/lang/RuntimeException", "java/lang/Exception"]) (htr _ had) hx hb hlk hown (hl.1.trans hml.symm) hno hS hA2 (us_at_IllegalArgumentException hts hE) (by decide +kernel) (by decide +kernel) (hts _ uw_2_71) (hts _ uw_1_14) (by decide) (Nat.le_of_ble_eq_true rfl) (by decide) (by decide) d_X_load_24 d_X_load_27 d_X_load_28 d_X_load_31
    · refine lv_iload_n hx hb d_X_load_11 rfl (lv_at hl 2 rfl) ?_
      refine lv_aload_n hx hb d_X_load_12 rfl (lv_at hl 0 rfl) ?_
      refine va_get (D := (dC, dI)) (ci := 7) (v := .ref jh) (C := "UpcastStreams") (T := F_X) (N := 9) hx hb hts in_X hown hK hP 0 rfl rfl 2 (by decide) (hts _ uw_1_218) (fun _ h9 => h9) rfl d_X_load_13 ?_
      refine va_get (D := (dC, dI)) (ci := 3) (v := .ref jv) (C := "UpcastStreams$Log") (T := F_Log) (N := 4) hx hb hts in_Log hown hK hP 1 rfl rfl 3 (by decide) (hts _ uw_1_90) (fun _ h9 => h9) rfl d_X_load_16 ?_
      refine lv_iload_n hx hb d_X_load_19 rfl (lv_at hl 1 rfl) ?_
      refine us_iald (j := j) hx hb hK hP 2 0 rfl rfl (vp_in_nI (by omega) (by omega)) (nI_clamp (by omega)) d_X_load_20 ?_
      refine lv_icmp_le (tgt := 32) hx hb d_X_load_21 (by decide) (fun h => absurd ⟨Int32.not_lt.mp c8, h⟩ hbad) (fun c3 => ?_)
      exact us_throw (names := ["java/lang/RuntimeException", "java/lang/Exception"]) (htr _ had) hx hb hlk hown (hl.1.trans hml.symm) hno hS hA2 (us_at_IllegalArgumentException hts hE) (by decide +kernel) (by decide +kernel) (hts _ uw_2_71) (hts _ uw_1_14) (by decide) (Nat.le_of_ble_eq_true rfl) (by decide) (by decide) d_X_load_24 d_X_load_27 d_X_load_28 d_X_load_31

set_option maxHeartbeats 4000000 in
set_option maxRecDepth 100000 in
theorem t_X_follow (zl : Launch) (dC : Nat → ClassId) (dI : Nat → Nat → Nat) (cI cL cS cR : ClassId) (htr : ∀ e : Env, zl.admits e → e.platform.stackTraces = false) (x : Nat) (uh : Nat) (jh : Nat) (rh : Nat) (sa : Nat) (ra : Nat) (th : Nat) (lo : Nat) (tr : Nat) (pe : Int32) (vh : Nat) (vt : Nat) (vf : Nat) (va : Nat) (vb : Nat) (js : Nat) (jn : Nat) (jv : Nat) (n : Nat) (y : Int32) (a : Int32) (b : Int32) (k : Int32) (hbad : ¬ ((0 ≤ y ∧ y < 4) ∧ 0 ≤ k ∧ k ≤ nI n)) : us_TMet zl y_X_follow w_X_follow ({ frames := 6, cells := 1, slots := 6, locals := 90 }) (dC, dI) vwCl (us_ty cI cL cS cR) us_E [.ref x, .int y, .int a, .int b, .int k] [(x, .inr (7, [.int pe, .ref uh, .ref jh, .ref rh, .ref sa, .ref ra, .ref th, .ref lo, .ref tr])), (jh, .inr (3, [.ref vh, .ref js, .ref jn, .ref jv])), (vh, .inr (0, [.ref vt, .ref vf, .ref va, .ref vb, .int (nI n)]))] "java/lang/IllegalArgumentException" := by
  refine us_ofTT (cc := b_X_follow) (maxL := 5) (ret := none) (by decide) (Nat.le_of_ble_eq_true rfl) ?_
  intro zp ze zs zm args below meth zc zA ls had hx hb hml hno hts hown hlk hl hK hE hP hS hA hA2
  have hown : zs.vm.findClass "UpcastStreams" = some zm.cls := hown
  have hl : lv_has ls 5 [(0, .ref x), (1, .int y), (2, .int a), (3, .int b), (4, .int k)] := hl
  obtain ⟨H, hH⟩ : ∃ H, H = zs.heap := ⟨_, rfl⟩
  rw [← hH] at hP ⊢
  have hS : va_S zA zs.heap H [] := hH ▸ hS
  generalize ([] : List Loc) = locs at hS ⊢
  refine lv_iload_n hx hb d_X_follow_0 rfl (lv_at hl 1 rfl) ?_
  refine us_callRS (As := [.int y]) (rest := []) ⟨hx, hb, hml, hown, hts⟩ (c_X_isReader zl dC dI cI cL cS cR y ) ⟨callB_of 1 hts (us_gC k_X_isReader) rfl rfl rfl (hts _ uw_1_1) (hts _ uw_2_55) h_X_isReader.2 ⟨by decide, by decide⟩, (hts _ uw_2_56)⟩ hK hP hS hA [] rfl rfl hl.1 rfl (Nat.le_of_ble_eq_true rfl) d_X_follow_1 ⟨by decide, by decide⟩ (fun u H locs w1 hP hS => ?_)
  obtain ⟨r1, rfl⟩ : ∃ z, z = u := ⟨_, rfl⟩
  try dsimp only at w1
  refine W.eq (g2 := F0 zm 4 ls [.int r1]) rfl ?_
  refine lv_if_eq (tgt := 27) hx hb d_X_follow_4 (by decide) (fun c4 => ?_) (fun c4 => ?_)
  · exact us_throw (names := ["java/lang/RuntimeException", "java/lang/Exception"]) (htr _ had) hx hb hlk hown (hl.1.trans hml.symm) hno hS hA2 (us_at_IllegalArgumentException hts hE) (by decide +kernel) (by decide +kernel) (hts _ uw_2_71) (hts _ uw_1_14) (by decide) (Nat.le_of_ble_eq_true rfl) (by decide) (by decide) d_X_follow_27 d_X_follow_30 d_X_follow_31 d_X_follow_34
  · refine lv_iload hx hb d_X_follow_7 (lv_at hl 4 rfl) ?_
    refine lv_if_lt (tgt := 27) hx hb d_X_follow_9 (by decide) (fun c9 => ?_) (fun c9 => ?_)
    · exact us_throw (names := ["java/lang/RuntimeException", "java/lang/Exception"]) (htr _ had) hx hb hlk hown (hl.1.trans hml.symm) hno hS hA2 (us_at_IllegalArgumentException hts hE) (by decide +kernel) (by decide +kernel) (hts _ uw_2_71) (hts _ uw_1_14) (by decide) (Nat.le_of_ble_eq_true rfl) (by decide) (by decide) d_X_follow_27 d_X_follow_30 d_X_follow_31 d_X_follow_34
    · refine lv_iload hx hb d_X_follow_12 (lv_at hl 4 rfl) ?_
      refine lv_aload_n hx hb d_X_follow_14 rfl (lv_at hl 0 rfl) ?_
      refine va_get (D := (dC, dI)) (ci := 7) (v := .ref jh) (C := "UpcastStreams") (T := F_X) (N := 9) hx hb hts in_X hown hK hP 0 rfl rfl 2 (by decide) (hts _ uw_1_218) (fun _ h9 => h9) rfl d_X_follow_15 ?_
      refine va_get (D := (dC, dI)) (ci := 3) (v := .ref vh) (C := "UpcastStreams$Log") (T := F_Log) (N := 4) hx hb hts in_Log hown hK hP 1 rfl rfl 0 (by decide) (hts _ uw_1_84) (fun _ h9 => h9) rfl d_X_follow_18 ?_
      refine va_get (D := (dC, dI)) (ci := 0) (v := .int (nI n)) (C := "UpcastStreams$Row") (T := F_Row) (N := 5) hx hb hts in_Row hown hK hP 2 rfl rfl 4 (by decide) (hts _ uw_1_58) (fun _ h9 => h9) rfl d_X_follow_21 ?_
      refine lv_icmp_le (tgt := 35) hx hb d_X_follow_24 (by decide) (fun h => absurd ⟨us_d1 w1 c4, Int32.not_lt.mp c9, h⟩ hbad) (fun c3 => ?_)
      exact us_throw (names := ["java/lang/RuntimeException", "java/lang/Exception"]) (htr _ had) hx hb hlk hown (hl.1.trans hml.symm) hno hS hA2 (us_at_IllegalArgumentException hts hE) (by decide +kernel) (by decide +kernel) (hts _ uw_2_71) (hts _ uw_1_14) (by decide) (Nat.le_of_ble_eq_true rfl) (by decide) (by decide) d_X_follow_27 d_X_follow_30 d_X_follow_31 d_X_follow_34

set_option maxHeartbeats 4000000 in
set_option maxRecDepth 100000 in
theorem t_X_done (zl : Launch) (dC : Nat → ClassId) (dI : Nat → Nat → Nat) (cI cL cS cR : ClassId) (htr : ∀ e : Env, zl.admits e → e.platform.stackTraces = false) (x : Nat) (uh : Nat) (jh : Nat) (rh : Nat) (sa : Nat) (ra : Nat) (th : Nat) (lo : Nat) (tr : Nat) (pe : Int32) (y : Int32) (hbad : ¬ (0 ≤ y ∧ y < 4)) : us_TMet zl y_X_done w_X_done ({ frames := 6, cells := 1, slots := 6, locals := 90 }) (dC, dI) vwCl (us_ty cI cL cS cR) us_E [.ref x, .int y] [(x, .inr (7, [.int pe, .ref uh, .ref jh, .ref rh, .ref sa, .ref ra, .ref th, .ref lo, .ref tr]))] "java/lang/IllegalArgumentException" := by
  refine us_ofTT (cc := b_X_done) (maxL := 2) (ret := (some .int)) (by decide) (Nat.le_of_ble_eq_true rfl) ?_
  intro zp ze zs zm args below meth zc zA ls had hx hb hml hno hts hown hlk hl hK hE hP hS hA hA2
  have hown : zs.vm.findClass "UpcastStreams" = some zm.cls := hown
  have hl : lv_has ls 2 [(0, .ref x), (1, .int y)] := hl
  obtain ⟨H, hH⟩ : ∃ H, H = zs.heap := ⟨_, rfl⟩
  rw [← hH] at hP ⊢
  have hS : va_S zA zs.heap H [] := hH ▸ hS
  generalize ([] : List Loc) = locs at hS ⊢
  refine lv_iload_n hx hb d_X_done_0 rfl (lv_at hl 1 rfl) ?_
  refine us_callRS (As := [.int y]) (rest := []) ⟨hx, hb, hml, hown, hts⟩ (c_X_isReader zl dC dI cI cL cS cR y ) ⟨callB_of 1 hts (us_gC k_X_isReader) rfl rfl rfl (hts _ uw_1_1) (hts _ uw_2_55) h_X_isReader.2 ⟨by decide, by decide⟩, (hts _ uw_2_56)⟩ hK hP hS hA [] rfl rfl hl.1 rfl (Nat.le_of_ble_eq_true rfl) d_X_done_1 ⟨by decide, by decide⟩ (fun u H locs w1 hP hS => ?_)
  obtain ⟨r1, rfl⟩ : ∃ z, z = u := ⟨_, rfl⟩
  try dsimp only at w1
  refine W.eq (g2 := F0 zm 4 ls [.int r1]) rfl ?_
  refine lv_if_ne (tgt := 15) hx hb d_X_done_4 (by decide) (fun h => absurd (us_d1 w1 h) hbad) (fun c1 => ?_)
  exact us_throw (names := ["java/lang/RuntimeException", "java/lang/Exception"]) (htr _ had) hx hb hlk hown (hl.1.trans hml.symm) hno hS hA2 (us_at_IllegalArgumentException hts hE) (by decide +kernel) (by decide +kernel) (hts _ uw_2_71) (hts _ uw_1_14) (by decide) (Nat.le_of_ble_eq_true rfl) (by decide) (by decide) d_X_done_7 d_X_done_10 d_X_done_11 d_X_done_14

set_option maxHeartbeats 4000000 in
set_option maxRecDepth 100000 in
theorem t_X_poll (zl : Launch) (dC : Nat → ClassId) (dI : Nat → Nat → Nat) (cI cL cS cR : ClassId) (htr : ∀ e : Env, zl.admits e → e.platform.stackTraces = false) (x : Nat) (uh : Nat) (jh : Nat) (rh : Nat) (sa : Nat) (ra : Nat) (th : Nat) (lo : Nat) (tr : Nat) (pe : Int32) (y : Int32) (k : Int32) (hbad : ¬ ((0 ≤ y ∧ y < 4) ∧ 1 ≤ k ∧ k ≤ 4)) : us_TMet zl y_X_poll w_X_poll ({ frames := 6, cells := 1, slots := 6, locals := 90 }) (dC, dI) vwCl (us_ty cI cL cS cR) us_E [.ref x, .int y, .int k] [(x, .inr (7, [.int pe, .ref uh, .ref jh, .ref rh, .ref sa, .ref ra, .ref th, .ref lo, .ref tr]))] "java/lang/IllegalArgumentException" := by
  refine us_ofTT (cc := b_X_poll) (maxL := 6) (ret := (some .int)) (by decide) (Nat.le_of_ble_eq_true rfl) ?_
  intro zp ze zs zm args below meth zc zA ls had hx hb hml hno hts hown hlk hl hK hE hP hS hA hA2
  have hown : zs.vm.findClass "UpcastStreams" = some zm.cls := hown
  have hl : lv_has ls 6 [(0, .ref x), (1, .int y), (2, .int k)] := hl
  obtain ⟨H, hH⟩ : ∃ H, H = zs.heap := ⟨_, rfl⟩
  rw [← hH] at hP ⊢
  have hS : va_S zA zs.heap H [] := hH ▸ hS
  generalize ([] : List Loc) = locs at hS ⊢
  refine lv_iload_n hx hb d_X_poll_0 rfl (lv_at hl 1 rfl) ?_
  refine us_callRS (As := [.int y]) (rest := []) ⟨hx, hb, hml, hown, hts⟩ (c_X_isReader zl dC dI cI cL cS cR y ) ⟨callB_of 1 hts (us_gC k_X_isReader) rfl rfl rfl (hts _ uw_1_1) (hts _ uw_2_55) h_X_isReader.2 ⟨by decide, by decide⟩, (hts _ uw_2_56)⟩ hK hP hS hA [] rfl rfl hl.1 rfl (Nat.le_of_ble_eq_true rfl) d_X_poll_1 ⟨by decide, by decide⟩ (fun u H locs w1 hP hS => ?_)
  obtain ⟨r1, rfl⟩ : ∃ z, z = u := ⟨_, rfl⟩
  try dsimp only at w1
  refine W.eq (g2 := F0 zm 4 ls [.int r1]) rfl ?_
  refine lv_if_eq (tgt := 17) hx hb d_X_poll_4 (by decide) (fun c4 => ?_) (fun c4 => ?_)
  · exact us_throw (names := ["java/lang/RuntimeException", "java/lang/Exception"]) (htr _ had) hx hb hlk hown (hl.1.trans hml.symm) hno hS hA2 (us_at_IllegalArgumentException hts hE) (by decide +kernel) (by decide +kernel) (hts _ uw_2_71) (hts _ uw_1_14) (by decide) (Nat.le_of_ble_eq_true rfl) (by decide) (by decide) d_X_poll_17 d_X_poll_20 d_X_poll_21 d_X_poll_24
  · refine lv_iload_n hx hb d_X_poll_7 rfl (lv_at hl 2 rfl) ?_
    refine lv_iconst (v := (1 : Int32)) hx hb d_X_poll_8 (by decide) ?_
    refine lv_icmp_lt (tgt := 17) hx hb d_X_poll_9 (by decide) (fun c9 => ?_) (fun c9 => ?_)
    · exact us_throw (names := ["java/lang/RuntimeException", "java/lang/Exception"]) (htr _ had) hx hb hlk hown (hl.1.trans hml.symm) hno hS hA2 (us_at_IllegalArgumentException hts hE) (by decide +kernel) (by decide +kernel) (hts _ uw_2_71) (hts _ uw_1_14) (by decide) (Nat.le_of_ble_eq_true rfl) (by decide) (by decide) d_X_poll_17 d_X_poll_20 d_X_poll_21 d_X_poll_24
    · refine lv_iload_n hx hb d_X_poll_12 rfl (lv_at hl 2 rfl) ?_
      refine lv_iconst (v := (4 : Int32)) hx hb d_X_poll_13 (by decide) ?_
      refine lv_icmp_le (tgt := 25) hx hb d_X_poll_14 (by decide) (fun h => absurd ⟨us_d1 w1 c4, Int32.not_lt.mp c9, h⟩ hbad) (fun c3 => ?_)
      exact us_throw (names := ["java/lang/RuntimeException", "java/lang/Exception"]) (htr _ had) hx hb hlk hown (hl.1.trans hml.symm) hno hS hA2 (us_at_IllegalArgumentException hts hE) (by decide +kernel) (by decide +kernel) (hts _ uw_2_71) (hts _ uw_1_14) (by decide) (Nat.le_of_ble_eq_true rfl) (by decide) (by decide) d_X_poll_17 d_X_poll_20 d_X_poll_21 d_X_poll_24

set_option maxHeartbeats 4000000 in
set_option maxRecDepth 100000 in
theorem t_X_hand (zl : Launch) (dC : Nat → ClassId) (dI : Nat → Nat → Nat) (cI cL cS cR : ClassId) (htr : ∀ e : Env, zl.admits e → e.platform.stackTraces = false) (x : Nat) (uh : Nat) (jh : Nat) (rh : Nat) (sa : Nat) (ra : Nat) (th : Nat) (lo : Nat) (tr : Nat) (pe : Int32) (wh : Nat) (wt : Nat) (wf : Nat) (wa : Nat) (wb : Nat) (hp : Nat) (hs : Nat) (hn : Nat) (y : Int32) (z : Int32) (hbad : ¬ ((0 ≤ y ∧ y < nI hn) ∧ 0 ≤ z ∧ z < 5)) : us_TMet zl y_X_hand w_X_hand ({ frames := 6, cells := 1, slots := 6, locals := 90 }) (dC, dI) vwCl (us_ty cI cL cS cR) us_E [.ref x, .int y, .int z] [(x, .inr (7, [.int pe, .ref uh, .ref jh, .ref rh, .ref sa, .ref ra, .ref th, .ref lo, .ref tr])), (th, .inr (4, [.ref wh, .ref hp, .ref hs])), (wh, .inr (0, [.ref wt, .ref wf, .ref wa, .ref wb, .int (nI hn)]))] "java/util/NoSuchElementException" := by
  refine us_ofTT (cc := b_X_hand) (maxL := 3) (ret := (some .int)) (by decide) (Nat.le_of_ble_eq_true rfl) ?_
  intro zp ze zs zm args below meth zc zA ls had hx hb hml hno hts hown hlk hl hK hE hP hS hA hA2
  have hown : zs.vm.findClass "UpcastStreams" = some zm.cls := hown
  have hl : lv_has ls 3 [(0, .ref x), (1, .int y), (2, .int z)] := hl
  obtain ⟨H, hH⟩ : ∃ H, H = zs.heap := ⟨_, rfl⟩
  rw [← hH] at hP ⊢
  have hS : va_S zA zs.heap H [] := hH ▸ hS
  generalize ([] : List Loc) = locs at hS ⊢
  refine lv_iload_n hx hb d_X_hand_0 rfl (lv_at hl 1 rfl) ?_
  refine lv_if_lt (tgt := 27) hx hb d_X_hand_1 (by decide) (fun c1 => ?_) (fun c1 => ?_)
  · exact us_throw (names := ["java/lang/RuntimeException", "java/lang/Exception"]) (htr _ had) hx hb hlk hown (hl.1.trans hml.symm) hno hS hA2 (us_at_NoSuchElementException hts hE) (by decide +kernel) (by decide +kernel) (hts _ uw_3_16) (hts _ uw_1_17) (by decide) (Nat.le_of_ble_eq_true rfl) (by decide) (by decide) d_X_hand_27 d_X_hand_30 d_X_hand_31 d_X_hand_34
  · refine lv_iload_n hx hb d_X_hand_4 rfl (lv_at hl 1 rfl) ?_
    refine lv_aload_n hx hb d_X_hand_5 rfl (lv_at hl 0 rfl) ?_
    refine va_get (D := (dC, dI)) (ci := 7) (v := .ref th) (C := "UpcastStreams") (T := F_X) (N := 9) hx hb hts in_X hown hK hP 0 rfl rfl 6 (by decide) (hts _ uw_1_222) (fun _ h9 => h9) rfl d_X_hand_6 ?_
    refine va_get (D := (dC, dI)) (ci := 4) (v := .ref wh) (C := "UpcastStreams$Hand") (T := F_Hand) (N := 3) hx hb hts in_Hand hown hK hP 1 rfl rfl 0 (by decide) (hts _ uw_1_204) (fun _ h9 => h9) rfl d_X_hand_9 ?_
    refine va_get (D := (dC, dI)) (ci := 0) (v := .int (nI hn)) (C := "UpcastStreams$Row") (T := F_Row) (N := 5) hx hb hts in_Row hown hK hP 2 rfl rfl 4 (by decide) (hts _ uw_1_58) (fun _ h9 => h9) rfl d_X_hand_12 ?_
    refine lv_icmp_ge (tgt := 27) hx hb d_X_hand_15 (by decide) (fun c15 => ?_) (fun c15 => ?_)
    · exact us_throw (names := ["java/lang/RuntimeException", "java/lang/Exception"]) (htr _ had) hx hb hlk hown (hl.1.trans hml.symm) hno hS hA2 (us_at_NoSuchElementException hts hE) (by decide +kernel) (by decide +kernel) (hts _ uw_3_16) (hts _ uw_1_17) (by decide) (Nat.le_of_ble_eq_true rfl) (by decide) (by decide) d_X_hand_27 d_X_hand_30 d_X_hand_31 d_X_hand_34
    · refine lv_iload_n hx hb d_X_hand_18 rfl (lv_at hl 2 rfl) ?_
      refine lv_if_lt (tgt := 27) hx hb d_X_hand_19 (by decide) (fun c19 => ?_) (fun c19 => ?_)
      · exact us_throw (names := ["java/lang/RuntimeException", "java/lang/Exception"]) (htr _ had) hx hb hlk hown (hl.1.trans hml.symm) hno hS hA2 (us_at_NoSuchElementException hts hE) (by decide +kernel) (by decide +kernel) (hts _ uw_3_16) (hts _ uw_1_17) (by decide) (Nat.le_of_ble_eq_true rfl) (by decide) (by decide) d_X_hand_27 d_X_hand_30 d_X_hand_31 d_X_hand_34
      · refine lv_iload_n hx hb d_X_hand_22 rfl (lv_at hl 2 rfl) ?_
        refine lv_iconst (v := (5 : Int32)) hx hb d_X_hand_23 (by decide) ?_
        refine lv_icmp_lt (tgt := 35) hx hb d_X_hand_24 (by decide) (fun h => absurd ⟨⟨Int32.not_lt.mp c1, Int32.not_le.mp c15⟩, Int32.not_lt.mp c19, h⟩ hbad) (fun c4 => ?_)
        exact us_throw (names := ["java/lang/RuntimeException", "java/lang/Exception"]) (htr _ had) hx hb hlk hown (hl.1.trans hml.symm) hno hS hA2 (us_at_NoSuchElementException hts hE) (by decide +kernel) (by decide +kernel) (hts _ uw_3_16) (hts _ uw_1_17) (by decide) (Nat.le_of_ble_eq_true rfl) (by decide) (by decide) d_X_hand_27 d_X_hand_30 d_X_hand_31 d_X_hand_34

set_option maxHeartbeats 4000000 in
set_option maxRecDepth 100000 in
theorem t_X_commit1 (zl : Launch) (dC : Nat → ClassId) (dI : Nat → Nat → Nat) (cI cL cS cR : ClassId) (htr : ∀ e : Env, zl.admits e → e.platform.stackTraces = false) (x : Nat) (uh : Nat) (jh : Nat) (rh : Nat) (sa : Nat) (ra : Nat) (th : Nat) (lo : Nat) (tr : Nat) (pe : Int32) (ut : Nat) (uf : Nat) (ua : Nat) (ub : Nat) (un : Nat) (y : Int32) (w : Int32) (hbad : ¬ ((0 ≤ y ∧ y < 8) ∧ ¬ nI un = 0)) : us_TMet zl y_X_commit w_X_commit ({ frames := 6, cells := 1, slots := 6, locals := 90 }) (dC, dI) vwCl (us_ty cI cL cS cR) us_E [.ref x, .int y, .int w] [(x, .inr (7, [.int pe, .ref uh, .ref jh, .ref rh, .ref sa, .ref ra, .ref th, .ref lo, .ref tr])), (uh, .inr (0, [.ref ut, .ref uf, .ref ua, .ref ub, .int (nI un)]))] "java/lang/IllegalArgumentException" := by
  refine us_ofTT (cc := b_X_commit) (maxL := 6) (ret := (some .int)) (by decide) (Nat.le_of_ble_eq_true rfl) ?_
  intro zp ze zs zm args below meth zc zA ls had hx hb hml hno hts hown hlk hl hK hE hP hS hA hA2
  have hown : zs.vm.findClass "UpcastStreams" = some zm.cls := hown
  have hl : lv_has ls 6 [(0, .ref x), (1, .int y), (2, .int w)] := hl
  obtain ⟨H, hH⟩ : ∃ H, H = zs.heap := ⟨_, rfl⟩
  rw [← hH] at hP ⊢
  have hS : va_S zA zs.heap H [] := hH ▸ hS
  generalize ([] : List Loc) = locs at hS ⊢
  refine lv_iload_n hx hb d_X_commit_0 rfl (lv_at hl 1 rfl) ?_
  refine us_callRS (As := [.int y]) (rest := []) ⟨hx, hb, hml, hown, hts⟩ (c_X_isStream zl dC dI cI cL cS cR y ) ⟨callB_of 1 hts (us_gC k_X_isStream) rfl rfl rfl (hts _ uw_1_1) (hts _ uw_2_27) h_X_isStream.2 ⟨by decide, by decide⟩, (hts _ uw_2_28)⟩ hK hP hS hA [] rfl rfl hl.1 rfl (Nat.le_of_ble_eq_true rfl) d_X_commit_1 ⟨by decide, by decide⟩ (fun u H locs w1 hP hS => ?_)
  obtain ⟨r1, rfl⟩ : ∃ z, z = u := ⟨_, rfl⟩
  try dsimp only at w1
  refine W.eq (g2 := F0 zm 4 ls [.int r1]) rfl ?_
  refine lv_if_eq (tgt := 17) hx hb d_X_commit_4 (by decide) (fun c4 => ?_) (fun c4 => ?_)
  · exact us_throw (names := ["java/lang/RuntimeException", "java/lang/Exception"]) (htr _ had) hx hb hlk hown (hl.1.trans hml.symm) hno hS hA2 (us_at_IllegalArgumentException hts hE) (by decide +kernel) (by decide +kernel) (hts _ uw_2_71) (hts _ uw_1_14) (by decide) (Nat.le_of_ble_eq_true rfl) (by decide) (by decide) d_X_commit_17 d_X_commit_20 d_X_commit_21 d_X_commit_24
  · refine lv_aload_n hx hb d_X_commit_7 rfl (lv_at hl 0 rfl) ?_
    refine va_get (D := (dC, dI)) (ci := 7) (v := .ref uh) (C := "UpcastStreams") (T := F_X) (N := 9) hx hb hts in_X hown hK hP 0 rfl rfl 1 (by decide) (hts _ uw_1_217) (fun _ h9 => h9) rfl d_X_commit_8 ?_
    refine va_get (D := (dC, dI)) (ci := 0) (v := .int (nI un)) (C := "UpcastStreams$Row") (T := F_Row) (N := 5) hx hb hts in_Row hown hK hP 1 rfl rfl 4 (by decide) (hts _ uw_1_58) (fun _ h9 => h9) rfl d_X_commit_11 ?_
    refine lv_if_ne (tgt := 25) hx hb d_X_commit_14 (by decide) (fun h => absurd ⟨us_d1 w1 c4, h⟩ hbad) (fun c2 => ?_)
    exact us_throw (names := ["java/lang/RuntimeException", "java/lang/Exception"]) (htr _ had) hx hb hlk hown (hl.1.trans hml.symm) hno hS hA2 (us_at_IllegalArgumentException hts hE) (by decide +kernel) (by decide +kernel) (hts _ uw_2_71) (hts _ uw_1_14) (by decide) (Nat.le_of_ble_eq_true rfl) (by decide) (by decide) d_X_commit_17 d_X_commit_20 d_X_commit_21 d_X_commit_24

set_option maxHeartbeats 4000000 in
set_option maxRecDepth 100000 in
theorem t_X_commit2 (zl : Launch) (dC : Nat → ClassId) (dI : Nat → Nat → Nat) (cI cL cS cR : ClassId) (htr : ∀ e : Env, zl.admits e → e.platform.stackTraces = false) (x : Nat) (uh : Nat) (jh : Nat) (rh : Nat) (sa : Nat) (ra : Nat) (th : Nat) (lo : Nat) (tr : Nat) (pe : Int32) (ut : Nat) (uf : Nat) (ua : Nat) (ub : Nat) (un : Nat) (vh : Nat) (vt : Nat) (vf : Nat) (va : Nat) (vb : Nat) (n : Nat) (js : Nat) (jn : Nat) (jv : Nat) (j : Nat) (Z : Nat → Int32) (w : Int32) (hj : j < 8) (hun : ¬ nI un = 0) (hw1 : ¬ w = -1) (hw2 : ¬ w = Z j) : us_TMet zl y_X_commit w_X_commit ({ frames := 6, cells := 1, slots := 6, locals := 90 }) (dC, dI) vwCl (us_ty cI cL cS cR) us_E [.ref x, .int (nI j), .int w] [(x, .inr (7, [.int pe, .ref uh, .ref jh, .ref rh, .ref sa, .ref ra, .ref th, .ref lo, .ref tr])), (uh, .inr (0, [.ref ut, .ref uf, .ref ua, .ref ub, .int (nI un)])), (jh, .inr (3, [.ref vh, .ref js, .ref jn, .ref jv])), (vh, .inr (0, [.ref vt, .ref vf, .ref va, .ref vb, .int (nI n)])), (jv, .inl (cI, 8, .inl Z))] "java/lang/IllegalStateException" := by
  refine us_ofTT (cc := b_X_commit) (maxL := 6) (ret := (some .int)) (by decide) (Nat.le_of_ble_eq_true rfl) ?_
  intro zp ze zs zm args below meth zc zA ls had hx hb hml hno hts hown hlk hl hK hE hP hS hA hA2
  have hown : zs.vm.findClass "UpcastStreams" = some zm.cls := hown
  have hl : lv_has ls 6 [(0, .ref x), (1, .int (nI j)), (2, .int w)] := hl
  obtain ⟨H, hH⟩ : ∃ H, H = zs.heap := ⟨_, rfl⟩
  rw [← hH] at hP ⊢
  have hS : va_S zA zs.heap H [] := hH ▸ hS
  generalize ([] : List Loc) = locs at hS ⊢
  refine lv_iload_n hx hb d_X_commit_0 rfl (lv_at hl 1 rfl) ?_
  refine us_callRS (As := [.int (nI j)]) (rest := []) ⟨hx, hb, hml, hown, hts⟩ (c_X_isStream zl dC dI cI cL cS cR (nI j) ) ⟨callB_of 1 hts (us_gC k_X_isStream) rfl rfl rfl (hts _ uw_1_1) (hts _ uw_2_27) h_X_isStream.2 ⟨by decide, by decide⟩, (hts _ uw_2_28)⟩ hK hP hS hA [] rfl rfl hl.1 rfl (Nat.le_of_ble_eq_true rfl) d_X_commit_1 ⟨by decide, by decide⟩ (fun u H locs w1 hP hS => ?_)
  obtain ⟨r1, rfl⟩ : ∃ z, z = u := ⟨_, rfl⟩
  try dsimp only at w1
  refine W.eq (g2 := F0 zm 4 ls [.int r1]) rfl ?_
  refine lv_if_eq (tgt := 17) hx hb d_X_commit_4 (by decide) (fun h => absurd ⟨nI_pos' (by omega), nI_lt (b := 8) hj (by omega)⟩ (us_d0 w1 h)) (fun c1 => ?_)
  refine lv_aload_n hx hb d_X_commit_7 rfl (lv_at hl 0 rfl) ?_
  refine va_get (D := (dC, dI)) (ci := 7) (v := .ref uh) (C := "UpcastStreams") (T := F_X) (N := 9) hx hb hts in_X hown hK hP 0 rfl rfl 1 (by decide) (hts _ uw_1_217) (fun _ h9 => h9) rfl d_X_commit_8 ?_
  refine va_get (D := (dC, dI)) (ci := 0) (v := .int (nI un)) (C := "UpcastStreams$Row") (T := F_Row) (N := 5) hx hb hts in_Row hown hK hP 1 rfl rfl 4 (by decide) (hts _ uw_1_58) (fun _ h9 => h9) rfl d_X_commit_11 ?_
  refine lv_if_ne (tgt := 25) hx hb d_X_commit_14 (by decide) (fun c2 => ?_) (fun h => absurd h hun)
  refine lv_aload_n hx hb d_X_commit_25 rfl (lv_at hl 0 rfl) ?_
  refine va_get (D := (dC, dI)) (ci := 7) (v := .ref jh) (C := "UpcastStreams") (T := F_X) (N := 9) hx hb hts in_X hown hK hP 0 rfl rfl 2 (by decide) (hts _ uw_1_218) (fun _ h9 => h9) rfl d_X_commit_26 ?_
  refine va_get (D := (dC, dI)) (ci := 3) (v := .ref jv) (C := "UpcastStreams$Log") (T := F_Log) (N := 4) hx hb hts in_Log hown hK hP 2 rfl rfl 3 (by decide) (hts _ uw_1_90) (fun _ h9 => h9) rfl d_X_commit_29 ?_
  refine lv_iload_n hx hb d_X_commit_32 rfl (lv_at hl 1 rfl) ?_
  refine us_iald (j := j) hx hb hK hP 4 0 rfl rfl (vp_in_nI (by omega) (by omega)) (nI_clamp (by omega)) d_X_commit_33 ?_
  refine lv_istore_n (lv' := [(3, .int (Z j)), (0, .ref x), (1, .int (nI j)), (2, .int w)]) hx hb d_X_commit_34 rfl hl (by decide) rfl (fun ls hl => ?_)
  refine lv_iload_n hx hb d_X_commit_35 rfl (lv_at hl 3 rfl) ?_
  refine lv_iconst (v := (-1 : Int32)) hx hb d_X_commit_36 (by decide) ?_
  refine lv_icmp_eq (tgt := 53) hx hb d_X_commit_37 (by decide) (fun h => absurd h hw1) (fun c3 => ?_)
  refine lv_iload_n hx hb d_X_commit_40 rfl (lv_at hl 3 rfl) ?_
  refine lv_iload_n hx hb d_X_commit_41 rfl (lv_at hl 0 rfl) ?_
  refine lv_icmp_eq (tgt := 53) hx hb d_X_commit_42 (by decide) (fun h => absurd h hw2) (fun c4 => ?_)
  exact us_throw (names := ["java/lang/RuntimeException", "java/lang/Exception"]) (htr _ had) hx hb hlk hown (hl.1.trans hml.symm) hno hS hA2 (us_at_IllegalStateException hts hE) (by decide +kernel) (by decide +kernel) (hts _ uw_2_135) (hts _ uw_1_15) (by decide) (Nat.le_of_ble_eq_true rfl) (by decide) (by decide) d_X_commit_45 d_X_commit_48 d_X_commit_49 d_X_commit_52

set_option maxHeartbeats 4000000 in
set_option maxRecDepth 100000 in
theorem t_X_commit3 (zl : Launch) (dC : Nat → ClassId) (dI : Nat → Nat → Nat) (cI cL cS cR : ClassId) (htr : ∀ e : Env, zl.admits e → e.platform.stackTraces = false) (x : Nat) (uh : Nat) (jh : Nat) (rh : Nat) (sa : Nat) (ra : Nat) (th : Nat) (lo : Nat) (tr : Nat) (pe : Int32) (ut : Nat) (uf : Nat) (ua : Nat) (ub : Nat) (un : Nat) (vh : Nat) (vt : Nat) (vf : Nat) (va : Nat) (vb : Nat) (n : Nat) (js : Nat) (jn : Nat) (jv : Nat) (j : Nat) (Z : Nat → Int32) (w : Int32) (hj : j < 8) (hun : ¬ nI un = 0) (hw : w = -1 ∨ w = Z j) (hfull : ¬ nI n + nI un ≤ 64) : us_TMet zl y_X_commit w_X_commit ({ frames := 6, cells := 1, slots := 6, locals := 90 }) (dC, dI) vwCl (us_ty cI cL cS cR) us_E [.ref x, .int (nI j), .int w] [(x, .inr (7, [.int pe, .ref uh, .ref jh, .ref rh, .ref sa, .ref ra, .ref th, .ref lo, .ref tr])), (uh, .inr (0, [.ref ut, .ref uf, .ref ua, .ref ub, .int (nI un)])), (jh, .inr (3, [.ref vh, .ref js, .ref jn, .ref jv])), (vh, .inr (0, [.ref vt, .ref vf, .ref va, .ref vb, .int (nI n)])), (jv, .inl (cI, 8, .inl Z))] "java/lang/UnsupportedOperationException" := by
  refine us_ofTT (cc := b_X_commit) (maxL := 6) (ret := (some .int)) (by decide) (Nat.le_of_ble_eq_true rfl) ?_
  intro zp ze zs zm args below meth zc zA ls had hx hb hml hno hts hown hlk hl hK hE hP hS hA hA2
  have hown : zs.vm.findClass "UpcastStreams" = some zm.cls := hown
  have hl : lv_has ls 6 [(0, .ref x), (1, .int (nI j)), (2, .int w)] := hl
  obtain ⟨H, hH⟩ : ∃ H, H = zs.heap := ⟨_, rfl⟩
  rw [← hH] at hP ⊢
  have hS : va_S zA zs.heap H [] := hH ▸ hS
  generalize ([] : List Loc) = locs at hS ⊢
  refine lv_iload_n hx hb d_X_commit_0 rfl (lv_at hl 1 rfl) ?_
  refine us_callRS (As := [.int (nI j)]) (rest := []) ⟨hx, hb, hml, hown, hts⟩ (c_X_isStream zl dC dI cI cL cS cR (nI j) ) ⟨callB_of 1 hts (us_gC k_X_isStream) rfl rfl rfl (hts _ uw_1_1) (hts _ uw_2_27) h_X_isStream.2 ⟨by decide, by decide⟩, (hts _ uw_2_28)⟩ hK hP hS hA [] rfl rfl hl.1 rfl (Nat.le_of_ble_eq_true rfl) d_X_commit_1 ⟨by decide, by decide⟩ (fun u H locs w1 hP hS => ?_)
  obtain ⟨r1, rfl⟩ : ∃ z, z = u := ⟨_, rfl⟩
  try dsimp only at w1
  refine W.eq (g2 := F0 zm 4 ls [.int r1]) rfl ?_
  refine lv_if_eq (tgt := 17) hx hb d_X_commit_4 (by decide) (fun h => absurd ⟨nI_pos' (by omega), nI_lt (b := 8) hj (by omega)⟩ (us_d0 w1 h)) (fun c1 => ?_)
  refine lv_aload_n hx hb d_X_commit_7 rfl (lv_at hl 0 rfl) ?_
  refine va_get (D := (dC, dI)) (ci := 7) (v := .ref uh) (C := "UpcastStreams") (T := F_X) (N := 9) hx hb hts in_X hown hK hP 0 rfl rfl 1 (by decide) (hts _ uw_1_217) (fun _ h9 => h9) rfl d_X_commit_8 ?_
  refine va_get (D := (dC, dI)) (ci := 0) (v := .int (nI un)) (C := "UpcastStreams$Row") (T := F_Row) (N := 5) hx hb hts in_Row hown hK hP 1 rfl rfl 4 (by decide) (hts _ uw_1_58) (fun _ h9 => h9) rfl d_X_commit_11 ?_
  refine lv_if_ne (tgt := 25) hx hb d_X_commit_14 (by decide) (fun c2 => ?_) (fun h => absurd h hun)
  refine lv_aload_n hx hb d_X_commit_25 rfl (lv_at hl 0 rfl) ?_
  refine va_get (D := (dC, dI)) (ci := 7) (v := .ref jh) (C := "UpcastStreams") (T := F_X) (N := 9) hx hb hts in_X hown hK hP 0 rfl rfl 2 (by decide) (hts _ uw_1_218) (fun _ h9 => h9) rfl d_X_commit_26 ?_
  refine va_get (D := (dC, dI)) (ci := 3) (v := .ref jv) (C := "UpcastStreams$Log") (T := F_Log) (N := 4) hx hb hts in_Log hown hK hP 2 rfl rfl 3 (by decide) (hts _ uw_1_90) (fun _ h9 => h9) rfl d_X_commit_29 ?_
  refine lv_iload_n hx hb d_X_commit_32 rfl (lv_at hl 1 rfl) ?_
  refine us_iald (j := j) hx hb hK hP 4 0 rfl rfl (vp_in_nI (by omega) (by omega)) (nI_clamp (by omega)) d_X_commit_33 ?_
  refine lv_istore_n (lv' := [(3, .int (Z j)), (0, .ref x), (1, .int (nI j)), (2, .int w)]) hx hb d_X_commit_34 rfl hl (by decide) rfl (fun ls hl => ?_)
  refine lv_iload_n hx hb d_X_commit_35 rfl (lv_at hl 3 rfl) ?_
  refine lv_iconst (v := (-1 : Int32)) hx hb d_X_commit_36 (by decide) ?_
  refine lv_icmp_eq (tgt := 53) hx hb d_X_commit_37 (by decide) (fun c37 => ?_) (fun c37 => ?_)
  · refine lv_aload_n hx hb d_X_commit_53 rfl (lv_at hl 1 rfl) ?_
    refine va_get (D := (dC, dI)) (ci := 7) (v := .ref jh) (C := "UpcastStreams") (T := F_X) (N := 9) hx hb hts in_X hown hK hP 0 rfl rfl 2 (by decide) (hts _ uw_1_218) (fun _ h9 => h9) rfl d_X_commit_54 ?_
    refine va_get (D := (dC, dI)) (ci := 3) (v := .ref vh) (C := "UpcastStreams$Log") (T := F_Log) (N := 4) hx hb hts in_Log hown hK hP 2 rfl rfl 0 (by decide) (hts _ uw_1_84) (fun _ h9 => h9) rfl d_X_commit_57 ?_
    refine va_get (D := (dC, dI)) (ci := 0) (v := .int (nI n)) (C := "UpcastStreams$Row") (T := F_Row) (N := 5) hx hb hts in_Row hown hK hP 3 rfl rfl 4 (by decide) (hts _ uw_1_58) (fun _ h9 => h9) rfl d_X_commit_60 ?_
    refine lv_aload_n hx hb d_X_commit_63 rfl (lv_at hl 1 rfl) ?_
    refine va_get (D := (dC, dI)) (ci := 7) (v := .ref uh) (C := "UpcastStreams") (T := F_X) (N := 9) hx hb hts in_X hown hK hP 0 rfl rfl 1 (by decide) (hts _ uw_1_217) (fun _ h9 => h9) rfl d_X_commit_64 ?_
    refine va_get (D := (dC, dI)) (ci := 0) (v := .int (nI un)) (C := "UpcastStreams$Row") (T := F_Row) (N := 5) hx hb hts in_Row hown hK hP 1 rfl rfl 4 (by decide) (hts _ uw_1_58) (fun _ h9 => h9) rfl d_X_commit_67 ?_
    refine lv_iadd hx hb d_X_commit_70 ?_
    refine lv_bipush (v := (64 : Int32)) hx hb d_X_commit_71 (by decide) ?_
    refine lv_icmp_le (tgt := 84) hx hb d_X_commit_73 (by decide) (fun h => absurd h hfull) (fun c4 => ?_)
    exact us_throw (names := ["java/lang/RuntimeException", "java/lang/Exception"]) (htr _ had) hx hb hlk hown (hl.1.trans hml.symm) hno hS hA2 (us_at_UnsupportedOperationException hts hE) (by decide +kernel) (by decide +kernel) (hts _ uw_2_150) (hts _ uw_1_16) (by decide) (Nat.le_of_ble_eq_true rfl) (by decide) (by decide) d_X_commit_76 d_X_commit_79 d_X_commit_80 d_X_commit_83
  · refine lv_iload_n hx hb d_X_commit_40 rfl (lv_at hl 3 rfl) ?_
    refine lv_iload_n hx hb d_X_commit_41 rfl (lv_at hl 0 rfl) ?_
    refine lv_icmp_eq (tgt := 53) hx hb d_X_commit_42 (by decide) (fun c5 => ?_) (fun h => absurd (hw.resolve_left c37) h)
    refine lv_aload_n hx hb d_X_commit_53 rfl (lv_at hl 1 rfl) ?_
    refine va_get (D := (dC, dI)) (ci := 7) (v := .ref jh) (C := "UpcastStreams") (T := F_X) (N := 9) hx hb hts in_X hown hK hP 0 rfl rfl 2 (by decide) (hts _ uw_1_218) (fun _ h9 => h9) rfl d_X_commit_54 ?_
    refine va_get (D := (dC, dI)) (ci := 3) (v := .ref vh) (C := "UpcastStreams$Log") (T := F_Log) (N := 4) hx hb hts in_Log hown hK hP 2 rfl rfl 0 (by decide) (hts _ uw_1_84) (fun _ h9 => h9) rfl d_X_commit_57 ?_
    refine va_get (D := (dC, dI)) (ci := 0) (v := .int (nI n)) (C := "UpcastStreams$Row") (T := F_Row) (N := 5) hx hb hts in_Row hown hK hP 3 rfl rfl 4 (by decide) (hts _ uw_1_58) (fun _ h9 => h9) rfl d_X_commit_60 ?_
    refine lv_aload_n hx hb d_X_commit_63 rfl (lv_at hl 1 rfl) ?_
    refine va_get (D := (dC, dI)) (ci := 7) (v := .ref uh) (C := "UpcastStreams") (T := F_X) (N := 9) hx hb hts in_X hown hK hP 0 rfl rfl 1 (by decide) (hts _ uw_1_217) (fun _ h9 => h9) rfl d_X_commit_64 ?_
    refine va_get (D := (dC, dI)) (ci := 0) (v := .int (nI un)) (C := "UpcastStreams$Row") (T := F_Row) (N := 5) hx hb hts in_Row hown hK hP 1 rfl rfl 4 (by decide) (hts _ uw_1_58) (fun _ h9 => h9) rfl d_X_commit_67 ?_
    refine lv_iadd hx hb d_X_commit_70 ?_
    refine lv_bipush (v := (64 : Int32)) hx hb d_X_commit_71 (by decide) ?_
    refine lv_icmp_le (tgt := 84) hx hb d_X_commit_73 (by decide) (fun h => absurd h hfull) (fun c6 => ?_)
    exact us_throw (names := ["java/lang/RuntimeException", "java/lang/Exception"]) (htr _ had) hx hb hlk hown (hl.1.trans hml.symm) hno hS hA2 (us_at_UnsupportedOperationException hts hE) (by decide +kernel) (by decide +kernel) (hts _ uw_2_150) (hts _ uw_1_16) (by decide) (Nat.le_of_ble_eq_true rfl) (by decide) (by decide) d_X_commit_76 d_X_commit_79 d_X_commit_80 d_X_commit_83
