set_option maxHeartbeats 4000000 in
set_option maxRecDepth 100000 in
theorem t_L_stored (zl : Launch) (dC : Nat → ClassId) (dI : Nat → Nat → Nat) (cI cL cS cR : ClassId) (htr : ∀ e : Env, zl.admits e → e.platform.stackTraces = false) (x : Nat) (uh : Nat) (jh : Nat) (rh : Nat) (sa : Nat) (ra : Nat) (th : Nat) (lo : Nat) (tr : Nat) (pe : Int32) (vh : Nat) (vt : Nat) (vf : Nat) (va : Nat) (vb : Nat) (js : Nat) (jn : Nat) (jv : Nat) (n : Nat) (y : Int32) (z : Int32) (ou : Nat) (OU : Nat → Int64) (hbad : ¬ ((0 ≤ y ∧ y < nI n) ∧ 0 ≤ z ∧ z < 6)) : us_MetH (S := Unit) zl y_L_stored w_L_stored ({ frames := 7, cells := 1, slots := 6, locals := 112 }) (dC, dI) vwCl (us_ty cI cL cS cR) [.ref x, .int y, .int z, .ref ou] [(x, .inr (7, [.int pe, .ref uh, .ref jh, .ref rh, .ref sa, .ref ra, .ref th, .ref lo, .ref tr])), (jh, .inr (3, [.ref vh, .ref js, .ref jn, .ref jv])), (vh, .inr (0, [.ref vt, .ref vf, .ref va, .ref vb, .int (nI n)])), (ou, .inl (cL, 1, .inr (.inl OU)))] (fun u => some (.int (1 : Int32))) (fun u => True) (fun u => [(x, .inr (7, [.int pe, .ref uh, .ref jh, .ref rh, .ref sa, .ref ra, .ref th, .ref lo, .ref tr])), (jh, .inr (3, [.ref vh, .ref js, .ref jn, .ref jv])), (vh, .inr (0, [.ref vt, .ref vf, .ref va, .ref vb, .int (nI n)])), (ou, .inl (cL, 1, .inr (.inl OU)))]) := by
  refine us_ofH (cc := b_L_stored) (maxL := 5) (ret := (some .int)) (by decide) (Nat.le_of_ble_eq_true rfl) ?_
  intro zp ze zs zm args below meth zc zA ls zQ hQ hx hb hr hml hts hown hlk had htb hAe hEL hl hK hP hD hS hA
  have hP0 := hP
  have hown : zs.vm.findClass "UpcastStreamsLaw" = some zm.cls := hown
  have hl : lv_has ls 5 [(0, .ref x), (1, .int y), (2, .int z), (3, .ref ou)] := hl
  obtain ⟨H, hH⟩ : ∃ H, H = zs.heap := ⟨_, rfl⟩
  rw [← hH] at hP ⊢
  have hS : va_S zA zs.heap H [] := hH ▸ hS
  generalize ([] : List Loc) = locs at hS ⊢
  refine lv_aload_n hx hb d_L_stored_0 rfl (lv_at hl 3 rfl) ?_
  refine lv_iconst (v := (0 : Int32)) hx hb d_L_stored_1 (by decide) ?_
  refine lv_aload_n hx hb d_L_stored_2 rfl (lv_at hl 0 rfl) ?_
  refine lv_iload_n hx hb d_L_stored_3 rfl (lv_at hl 1 rfl) ?_
  refine lv_iload_n hx hb d_L_stored_4 rfl (lv_at hl 2 rfl) ?_
  obtain ⟨y0, ht0, q01, q02, q03, q04⟩ := us_tab1 htb
  have r0 := fun k (hk : zs.vm.findClass "java/util/NoSuchElementException" = some k) => us_rowy (e := ze) (pc := 5) (y := y0) (k := k) (X := "java/util/NoSuchElementException") (C := "java/util/NoSuchElementException") (by rw [had.platform]) hown (by rw [q04]; exact (hts _ uw_3_7)) (by rw [q04]; decide) (us_cov q01 q02 (by decide) (by decide)) hk (fun c hc => us_cast (hEL.1.1 args _ (List.mem_of_getElem? (i := 6) rfl)) hk hc)
  refine us_callT (e := ze) (q0 := 0) (As := [.int y, .int z]) (rest := [.int (0 : Int32), .ref ou]) ⟨hx, hb, hml, hown, hts⟩ (t_X_stored zl dC dI cI cL cS cR htr x uh jh rh sa ra th lo tr pe vh vt vf va vb js jn jv n y z hbad) (cwV 2 hts (us_gV uw_3_8 uw_3_9 uw_3_10 uw_1_1 k_X_stored) rfl rfl rfl h_X_stored ⟨by decide, by decide⟩) ⟨rfl, rfl⟩ hK hP hS (us_hE hAe hP0 hS hEL) [0, 1, 2] rfl rfl rfl rfl hl.1 rfl (Nat.le_of_ble_eq_true rfl) d_L_stored_5 ⟨by decide, by decide⟩ ht0 (fun k hk z hz => by cases hz) r0 (fun ex H hP hS _ => ?_)
  rw [q03]
  refine W.widen (k := 1) (n := 6) (by decide) (by decide) ?_
  refine W.eq (g2 := F0 zm 13 ls [.ref ex]) rfl ?_
  refine lv_astore (lv' := [(4, .ref ex), (0, .ref x), (1, .int y), (2, .int z), (3, .ref ou)]) hx hb d_L_stored_13 hl (by decide) rfl (fun ls hl => ?_)
  refine lv_iconst (v := (1 : Int32)) hx hb d_L_stored_15 (by decide) ?_
  exact us_iret hQ (by decide) (by decide) hx hb hr hlk hK hS () rfl (by simp) hP hD d_L_stored_16

set_option maxHeartbeats 4000000 in
set_option maxRecDepth 100000 in
theorem t_L_learn (zl : Launch) (dC : Nat → ClassId) (dI : Nat → Nat → Nat) (cI cL cS cR : ClassId) (htr : ∀ e : Env, zl.admits e → e.platform.stackTraces = false) (x : Nat) (uh : Nat) (jh : Nat) (rh : Nat) (sa : Nat) (ra : Nat) (th : Nat) (lo : Nat) (tr : Nat) (pe : Int32) (t : Int32) (f : Int32) (q : Int32) (y : Int32) (hbad : ¬ ((0 ≤ t ∧ t < 6) ∧ 1 ≤ f ∧ f < 3 ∧ 0 ≤ q ∧ q ≤ 6 ∧ (q = 5 → 0 ≤ y ∧ y < 6))) : us_MetH (S := Unit) zl y_L_learn w_L_learn ({ frames := 7, cells := 1, slots := 6, locals := 115 }) (dC, dI) vwCl (us_ty cI cL cS cR) [.ref x, .int t, .int f, .int q, .int y] [(x, .inr (7, [.int pe, .ref uh, .ref jh, .ref rh, .ref sa, .ref ra, .ref th, .ref lo, .ref tr]))] (fun u => some (.int (1 : Int32))) (fun u => True) (fun u => [(x, .inr (7, [.int pe, .ref uh, .ref jh, .ref rh, .ref sa, .ref ra, .ref th, .ref lo, .ref tr]))]) := by
  refine us_ofH (cc := b_L_learn) (maxL := 6) (ret := (some .int)) (by decide) (Nat.le_of_ble_eq_true rfl) ?_
  intro zp ze zs zm args below meth zc zA ls zQ hQ hx hb hr hml hts hown hlk had htb hAe hEL hl hK hP hD hS hA
  have hP0 := hP
  have hown : zs.vm.findClass "UpcastStreamsLaw" = some zm.cls := hown
  have hl : lv_has ls 6 [(0, .ref x), (1, .int t), (2, .int f), (3, .int q), (4, .int y)] := hl
  obtain ⟨H, hH⟩ : ∃ H, H = zs.heap := ⟨_, rfl⟩
  rw [← hH] at hP ⊢
  have hS : va_S zA zs.heap H [] := hH ▸ hS
  generalize ([] : List Loc) = locs at hS ⊢
  refine lv_aload_n hx hb d_L_learn_0 rfl (lv_at hl 0 rfl) ?_
  refine lv_iload_n hx hb d_L_learn_1 rfl (lv_at hl 1 rfl) ?_
  refine lv_iload_n hx hb d_L_learn_2 rfl (lv_at hl 2 rfl) ?_
  refine lv_iload_n hx hb d_L_learn_3 rfl (lv_at hl 3 rfl) ?_
  refine lv_iload hx hb d_L_learn_4 (lv_at hl 4 rfl) ?_
  obtain ⟨y0, ht0, q01, q02, q03, q04⟩ := us_tab1 htb
  have r0 := fun k (hk : zs.vm.findClass "java/lang/IllegalArgumentException" = some k) => us_rowy (e := ze) (pc := 6) (y := y0) (k := k) (X := "java/lang/IllegalArgumentException") (C := "java/lang/IllegalArgumentException") (by rw [had.platform]) hown (by rw [q04]; exact (hts _ uw_2_64)) (by rw [q04]; decide) (us_cov q01 q02 (by decide) (by decide)) hk (fun c hc => us_cast (hEL.1.1 args _ (List.mem_of_getElem? (i := 3) rfl)) hk hc)
  refine us_callT (e := ze) (q0 := 0) (As := [.int t, .int f, .int q, .int y]) (rest := []) ⟨hx, hb, hml, hown, hts⟩ (t_X_learn zl dC dI cI cL cS cR htr x uh jh rh sa ra th lo tr pe t f q y hbad) (cwV 4 hts (us_gV uw_3_38 uw_3_39 uw_3_40 uw_1_1 k_X_learn) rfl rfl rfl h_X_learn ⟨by decide, by decide⟩) ⟨rfl, rfl⟩ hK hP hS (us_hE hAe hP0 hS hEL) [0] rfl rfl rfl rfl hl.1 rfl (Nat.le_of_ble_eq_true rfl) d_L_learn_6 ⟨by decide, by decide⟩ ht0 (fun k hk z hz => by cases hz) r0 (fun ex H hP hS _ => ?_)
  rw [q03]
  refine W.widen (k := 1) (n := 6) (by decide) (by decide) ?_
  refine W.eq (g2 := F0 zm 12 ls [.ref ex]) rfl ?_
  refine lv_astore (lv' := [(5, .ref ex), (0, .ref x), (1, .int t), (2, .int f), (3, .int q), (4, .int y)]) hx hb d_L_learn_12 hl (by decide) rfl (fun ls hl => ?_)
  refine lv_iconst (v := (1 : Int32)) hx hb d_L_learn_14 (by decide) ?_
  exact us_iret hQ (by decide) (by decide) hx hb hr hlk hK hS () rfl (by simp) hP hD d_L_learn_15

set_option maxHeartbeats 4000000 in
set_option maxRecDepth 100000 in
theorem t_L_comes (zl : Launch) (dC : Nat → ClassId) (dI : Nat → Nat → Nat) (cI cL cS cR : ClassId) (htr : ∀ e : Env, zl.admits e → e.platform.stackTraces = false) (x : Nat) (uh : Nat) (jh : Nat) (rh : Nat) (sa : Nat) (ra : Nat) (th : Nat) (lo : Nat) (tr : Nat) (pe : Int32) (vh : Nat) (vt : Nat) (vf : Nat) (va : Nat) (vb : Nat) (js : Nat) (jn : Nat) (jv : Nat) (n : Nat) (y : Int32) (ou : Nat) (OU : Nat → Int64) (hbad : ¬ (0 ≤ y ∧ y < nI n)) : us_MetH (S := Unit) zl y_L_comes w_L_comes ({ frames := 7, cells := 1, slots := 6, locals := 111 }) (dC, dI) vwCl (us_ty cI cL cS cR) [.ref x, .int y, .ref ou] [(x, .inr (7, [.int pe, .ref uh, .ref jh, .ref rh, .ref sa, .ref ra, .ref th, .ref lo, .ref tr])), (jh, .inr (3, [.ref vh, .ref js, .ref jn, .ref jv])), (vh, .inr (0, [.ref vt, .ref vf, .ref va, .ref vb, .int (nI n)])), (ou, .inl (cL, 1, .inr (.inl OU)))] (fun u => some (.int (1 : Int32))) (fun u => True) (fun u => [(x, .inr (7, [.int pe, .ref uh, .ref jh, .ref rh, .ref sa, .ref ra, .ref th, .ref lo, .ref tr])), (jh, .inr (3, [.ref vh, .ref js, .ref jn, .ref jv])), (vh, .inr (0, [.ref vt, .ref vf, .ref va, .ref vb, .int (nI n)])), (ou, .inl (cL, 1, .inr (.inl OU)))]) := by
  refine us_ofH (cc := b_L_comes) (maxL := 4) (ret := (some .int)) (by decide) (Nat.le_of_ble_eq_true rfl) ?_
  intro zp ze zs zm args below meth zc zA ls zQ hQ hx hb hr hml hts hown hlk had htb hAe hEL hl hK hP hD hS hA
  have hP0 := hP
  have hown : zs.vm.findClass "UpcastStreamsLaw" = some zm.cls := hown
  have hl : lv_has ls 4 [(0, .ref x), (1, .int y), (2, .ref ou)] := hl
  obtain ⟨H, hH⟩ : ∃ H, H = zs.heap := ⟨_, rfl⟩
  rw [← hH] at hP ⊢
  have hS : va_S zA zs.heap H [] := hH ▸ hS
  generalize ([] : List Loc) = locs at hS ⊢
  refine lv_aload_n hx hb d_L_comes_0 rfl (lv_at hl 2 rfl) ?_
  refine lv_iconst (v := (0 : Int32)) hx hb d_L_comes_1 (by decide) ?_
  refine lv_aload_n hx hb d_L_comes_2 rfl (lv_at hl 0 rfl) ?_
  refine lv_iload_n hx hb d_L_comes_3 rfl (lv_at hl 1 rfl) ?_
  obtain ⟨y0, ht0, q01, q02, q03, q04⟩ := us_tab1 htb
  have r0 := fun k (hk : zs.vm.findClass "java/util/NoSuchElementException" = some k) => us_rowy (e := ze) (pc := 4) (y := y0) (k := k) (X := "java/util/NoSuchElementException") (C := "java/util/NoSuchElementException") (by rw [had.platform]) hown (by rw [q04]; exact (hts _ uw_3_7)) (by rw [q04]; decide) (us_cov q01 q02 (by decide) (by decide)) hk (fun c hc => us_cast (hEL.1.1 args _ (List.mem_of_getElem? (i := 6) rfl)) hk hc)
  refine us_callT (e := ze) (q0 := 0) (As := [.int y]) (rest := [.int (0 : Int32), .ref ou]) ⟨hx, hb, hml, hown, hts⟩ (t_X_comes zl dC dI cI cL cS cR htr x uh jh rh sa ra th lo tr pe vh vt vf va vb js jn jv n y hbad) (cwV 1 hts (us_gV uw_3_53 uw_3_54 uw_3_55 uw_1_1 k_X_comes) rfl rfl rfl h_X_comes ⟨by decide, by decide⟩) ⟨rfl, rfl⟩ hK hP hS (us_hE hAe hP0 hS hEL) [0, 1, 2] rfl rfl rfl rfl hl.1 rfl (Nat.le_of_ble_eq_true rfl) d_L_comes_4 ⟨by decide, by decide⟩ ht0 (fun k hk z hz => by cases hz) r0 (fun ex H hP hS _ => ?_)
  rw [q03]
  refine W.widen (k := 1) (n := 6) (by decide) (by decide) ?_
  refine W.eq (g2 := F0 zm 12 ls [.ref ex]) rfl ?_
  refine lv_astore_n (lv' := [(3, .ref ex), (0, .ref x), (1, .int y), (2, .ref ou)]) hx hb d_L_comes_12 rfl hl (by decide) rfl (fun ls hl => ?_)
  refine lv_iconst (v := (1 : Int32)) hx hb d_L_comes_13 (by decide) ?_
  exact us_iret hQ (by decide) (by decide) hx hb hr hlk hK hS () rfl (by simp) hP hD d_L_comes_14

set_option maxHeartbeats 4000000 in
set_option maxRecDepth 100000 in
theorem t_L_load1 (zl : Launch) (dC : Nat → ClassId) (dI : Nat → Nat → Nat) (cI cL cS cR : ClassId) (htr : ∀ e : Env, zl.admits e → e.platform.stackTraces = false) (x : Nat) (uh : Nat) (jh : Nat) (rh : Nat) (sa : Nat) (ra : Nat) (th : Nat) (lo : Nat) (tr : Nat) (pe : Int32) (y : Int32) (v : Int32) (ou : Nat) (OU : Nat → Int64) (hbad : ¬ (0 ≤ y ∧ y < 8)) : us_MetH (S := Unit) zl y_L_load w_L_load ({ frames := 7, cells := 1, slots := 6, locals := 112 }) (dC, dI) vwCl (us_ty cI cL cS cR) [.ref x, .int y, .int v, .ref ou] [(x, .inr (7, [.int pe, .ref uh, .ref jh, .ref rh, .ref sa, .ref ra, .ref th, .ref lo, .ref tr])), (ou, .inl (cL, 1, .inr (.inl OU)))] (fun u => some (.int (1 : Int32))) (fun u => True) (fun u => [(x, .inr (7, [.int pe, .ref uh, .ref jh, .ref rh, .ref sa, .ref ra, .ref th, .ref lo, .ref tr])), (ou, .inl (cL, 1, .inr (.inl OU)))]) := by
  refine us_ofH (cc := b_L_load) (maxL := 5) (ret := (some .int)) (by decide) (Nat.le_of_ble_eq_true rfl) ?_
  intro zp ze zs zm args below meth zc zA ls zQ hQ hx hb hr hml hts hown hlk had htb hAe hEL hl hK hP hD hS hA
  have hP0 := hP
  have hown : zs.vm.findClass "UpcastStreamsLaw" = some zm.cls := hown
  have hl : lv_has ls 5 [(0, .ref x), (1, .int y), (2, .int v), (3, .ref ou)] := hl
  obtain ⟨H, hH⟩ : ∃ H, H = zs.heap := ⟨_, rfl⟩
  rw [← hH] at hP ⊢
  have hS : va_S zA zs.heap H [] := hH ▸ hS
  generalize ([] : List Loc) = locs at hS ⊢
  refine lv_aload_n hx hb d_L_load_0 rfl (lv_at hl 3 rfl) ?_
  refine lv_iconst (v := (0 : Int32)) hx hb d_L_load_1 (by decide) ?_
  refine lv_aload_n hx hb d_L_load_2 rfl (lv_at hl 0 rfl) ?_
  refine lv_iload_n hx hb d_L_load_3 rfl (lv_at hl 1 rfl) ?_
  refine lv_iload_n hx hb d_L_load_4 rfl (lv_at hl 2 rfl) ?_
  obtain ⟨y0, ht0, q01, q02, q03, q04⟩ := us_tab1 htb
  have r0 := fun k (hk : zs.vm.findClass "java/lang/IllegalArgumentException" = some k) => us_rowy (e := ze) (pc := 5) (y := y0) (k := k) (X := "java/lang/IllegalArgumentException") (C := "java/lang/IllegalArgumentException") (by rw [had.platform]) hown (by rw [q04]; exact (hts _ uw_2_64)) (by rw [q04]; decide) (us_cov q01 q02 (by decide) (by decide)) hk (fun c hc => us_cast (hEL.1.1 args _ (List.mem_of_getElem? (i := 3) rfl)) hk hc)
  refine us_callT (e := ze) (q0 := 0) (As := [.int y, .int v]) (rest := [.int (0 : Int32), .ref ou]) ⟨hx, hb, hml, hown, hts⟩ (t_X_load1 zl dC dI cI cL cS cR htr x uh jh rh sa ra th lo tr pe y v hbad) (cwV 2 hts (us_gV uw_3_60 uw_3_61 uw_3_62 uw_1_1 k_X_load) rfl rfl rfl h_X_load ⟨by decide, by decide⟩) ⟨rfl, rfl⟩ hK hP hS (us_hE hAe hP0 hS hEL) [0] rfl rfl rfl rfl hl.1 rfl (Nat.le_of_ble_eq_true rfl) d_L_load_5 ⟨by decide, by decide⟩ ht0 (fun k hk z hz => by cases hz) r0 (fun ex H hP hS _ => ?_)
  rw [q03]
  refine W.widen (k := 1) (n := 6) (by decide) (by decide) ?_
  refine W.eq (g2 := F0 zm 13 ls [.ref ex]) rfl ?_
  refine lv_astore (lv' := [(4, .ref ex), (0, .ref x), (1, .int y), (2, .int v), (3, .ref ou)]) hx hb d_L_load_13 hl (by decide) rfl (fun ls hl => ?_)
  refine lv_iconst (v := (1 : Int32)) hx hb d_L_load_15 (by decide) ?_
  exact us_iret hQ (by decide) (by decide) hx hb hr hlk hK hS () rfl (by simp) hP hD d_L_load_16

set_option maxHeartbeats 4000000 in
set_option maxRecDepth 100000 in
theorem t_L_load2 (zl : Launch) (dC : Nat → ClassId) (dI : Nat → Nat → Nat) (cI cL cS cR : ClassId) (htr : ∀ e : Env, zl.admits e → e.platform.stackTraces = false) (x : Nat) (uh : Nat) (jh : Nat) (rh : Nat) (sa : Nat) (ra : Nat) (th : Nat) (lo : Nat) (tr : Nat) (pe : Int32) (vh : Nat) (js : Nat) (jn : Nat) (jv : Nat) (j : Nat) (Z : Nat → Int32) (v : Int32) (ou : Nat) (OU : Nat → Int64) (hj : j < 8) (hbad : ¬ (0 ≤ v ∧ v ≤ Z j)) : us_MetH (S := Unit) zl y_L_load w_L_load ({ frames := 7, cells := 1, slots := 6, locals := 112 }) (dC, dI) vwCl (us_ty cI cL cS cR) [.ref x, .int (nI j), .int v, .ref ou] [(x, .inr (7, [.int pe, .ref uh, .ref jh, .ref rh, .ref sa, .ref ra, .ref th, .ref lo, .ref tr])), (jh, .inr (3, [.ref vh, .ref js, .ref jn, .ref jv])), (jv, .inl (cI, 8, .inl Z)), (ou, .inl (cL, 1, .inr (.inl OU)))] (fun u => some (.int (1 : Int32))) (fun u => True) (fun u => [(x, .inr (7, [.int pe, .ref uh, .ref jh, .ref rh, .ref sa, .ref ra, .ref th, .ref lo, .ref tr])), (jh, .inr (3, [.ref vh, .ref js, .ref jn, .ref jv])), (jv, .inl (cI, 8, .inl Z)), (ou, .inl (cL, 1, .inr (.inl OU)))]) := by
  refine us_ofH (cc := b_L_load) (maxL := 5) (ret := (some .int)) (by decide) (Nat.le_of_ble_eq_true rfl) ?_
  intro zp ze zs zm args below meth zc zA ls zQ hQ hx hb hr hml hts hown hlk had htb hAe hEL hl hK hP hD hS hA
  have hP0 := hP
  have hown : zs.vm.findClass "UpcastStreamsLaw" = some zm.cls := hown
  have hl : lv_has ls 5 [(0, .ref x), (1, .int (nI j)), (2, .int v), (3, .ref ou)] := hl
  obtain ⟨H, hH⟩ : ∃ H, H = zs.heap := ⟨_, rfl⟩
  rw [← hH] at hP ⊢
  have hS : va_S zA zs.heap H [] := hH ▸ hS
  generalize ([] : List Loc) = locs at hS ⊢
  refine lv_aload_n hx hb d_L_load_0 rfl (lv_at hl 3 rfl) ?_
  refine lv_iconst (v := (0 : Int32)) hx hb d_L_load_1 (by decide) ?_
  refine lv_aload_n hx hb d_L_load_2 rfl (lv_at hl 0 rfl) ?_
  refine lv_iload_n hx hb d_L_load_3 rfl (lv_at hl 1 rfl) ?_
  refine lv_iload_n hx hb d_L_load_4 rfl (lv_at hl 2 rfl) ?_
  obtain ⟨y0, ht0, q01, q02, q03, q04⟩ := us_tab1 htb
  have r0 := fun k (hk : zs.vm.findClass "java/lang/IllegalArgumentException" = some k) => us_rowy (e := ze) (pc := 5) (y := y0) (k := k) (X := "java/lang/IllegalArgumentException") (C := "java/lang/IllegalArgumentException") (by rw [had.platform]) hown (by rw [q04]; exact (hts _ uw_2_64)) (by rw [q04]; decide) (us_cov q01 q02 (by decide) (by decide)) hk (fun c hc => us_cast (hEL.1.1 args _ (List.mem_of_getElem? (i := 3) rfl)) hk hc)
  refine us_callT (e := ze) (q0 := 0) (As := [.int (nI j), .int v]) (rest := [.int (0 : Int32), .ref ou]) ⟨hx, hb, hml, hown, hts⟩ (t_X_load2 zl dC dI cI cL cS cR htr x uh jh rh sa ra th lo tr pe vh js jn jv j Z v hj hbad) (cwV 2 hts (us_gV uw_3_60 uw_3_61 uw_3_62 uw_1_1 k_X_load) rfl rfl rfl h_X_load ⟨by decide, by decide⟩) ⟨rfl, rfl⟩ hK hP hS (us_hE hAe hP0 hS hEL) [0, 1, 2] rfl rfl rfl rfl hl.1 rfl (Nat.le_of_ble_eq_true rfl) d_L_load_5 ⟨by decide, by decide⟩ ht0 (fun k hk z hz => by cases hz) r0 (fun ex H hP hS _ => ?_)
  rw [q03]
  refine W.widen (k := 1) (n := 6) (by decide) (by decide) ?_
  refine W.eq (g2 := F0 zm 13 ls [.ref ex]) rfl ?_
  refine lv_astore (lv' := [(4, .ref ex), (0, .ref x), (1, .int (nI j)), (2, .int v), (3, .ref ou)]) hx hb d_L_load_13 hl (by decide) rfl (fun ls hl => ?_)
  refine lv_iconst (v := (1 : Int32)) hx hb d_L_load_15 (by decide) ?_
  exact us_iret hQ (by decide) (by decide) hx hb hr hlk hK hS () rfl (by simp) hP hD d_L_load_16

set_option maxHeartbeats 4000000 in
set_option maxRecDepth 100000 in
theorem t_L_follow (zl : Launch) (dC : Nat → ClassId) (dI : Nat → Nat → Nat) (cI cL cS cR : ClassId) (htr : ∀ e : Env, zl.admits e → e.platform.stackTraces = false) (x : Nat) (uh : Nat) (jh : Nat) (rh : Nat) (sa : Nat) (ra : Nat) (th : Nat) (lo : Nat) (tr : Nat) (pe : Int32) (vh : Nat) (vt : Nat) (vf : Nat) (va : Nat) (vb : Nat) (js : Nat) (jn : Nat) (jv : Nat) (n : Nat) (y : Int32) (a : Int32) (b : Int32) (k : Int32) (hbad : ¬ ((0 ≤ y ∧ y < 4) ∧ 0 ≤ k ∧ k ≤ nI n)) : us_MetH (S := Unit) zl y_L_follow w_L_follow ({ frames := 7, cells := 1, slots := 6, locals := 114 }) (dC, dI) vwCl (us_ty cI cL cS cR) [.ref x, .int y, .int a, .int b, .int k] [(x, .inr (7, [.int pe, .ref uh, .ref jh, .ref rh, .ref sa, .ref ra, .ref th, .ref lo, .ref tr])), (jh, .inr (3, [.ref vh, .ref js, .ref jn, .ref jv])), (vh, .inr (0, [.ref vt, .ref vf, .ref va, .ref vb, .int (nI n)]))] (fun u => some (.int (1 : Int32))) (fun u => True) (fun u => [(x, .inr (7, [.int pe, .ref uh, .ref jh, .ref rh, .ref sa, .ref ra, .ref th, .ref lo, .ref tr])), (jh, .inr (3, [.ref vh, .ref js, .ref jn, .ref jv])), (vh, .inr (0, [.ref vt, .ref vf, .ref va, .ref vb, .int (nI n)]))]) := by
  refine us_ofH (cc := b_L_follow) (maxL := 6) (ret := (some .int)) (by decide) (Nat.le_of_ble_eq_true rfl) ?_
  intro zp ze zs zm args below meth zc zA ls zQ hQ hx hb hr hml hts hown hlk had htb hAe hEL hl hK hP hD hS hA
  have hP0 := hP
  have hown : zs.vm.findClass "UpcastStreamsLaw" = some zm.cls := hown
  have hl : lv_has ls 6 [(0, .ref x), (1, .int y), (2, .int a), (3, .int b), (4, .int k)] := hl
  obtain ⟨H, hH⟩ : ∃ H, H = zs.heap := ⟨_, rfl⟩
  rw [← hH] at hP ⊢
  have hS : va_S zA zs.heap H [] := hH ▸ hS
  generalize ([] : List Loc) = locs at hS ⊢
  refine lv_aload_n hx hb d_L_follow_0 rfl (lv_at hl 0 rfl) ?_
  refine lv_iload_n hx hb d_L_follow_1 rfl (lv_at hl 1 rfl) ?_
  refine lv_iload_n hx hb d_L_follow_2 rfl (lv_at hl 2 rfl) ?_
  refine lv_iload_n hx hb d_L_follow_3 rfl (lv_at hl 3 rfl) ?_
  refine lv_iload hx hb d_L_follow_4 (lv_at hl 4 rfl) ?_
  obtain ⟨y0, ht0, q01, q02, q03, q04⟩ := us_tab1 htb
  have r0 := fun k (hk : zs.vm.findClass "java/lang/IllegalArgumentException" = some k) => us_rowy (e := ze) (pc := 6) (y := y0) (k := k) (X := "java/lang/IllegalArgumentException") (C := "java/lang/IllegalArgumentException") (by rw [had.platform]) hown (by rw [q04]; exact (hts _ uw_2_64)) (by rw [q04]; decide) (us_cov q01 q02 (by decide) (by decide)) hk (fun c hc => us_cast (hEL.1.1 args _ (List.mem_of_getElem? (i := 3) rfl)) hk hc)
  refine us_callT (e := ze) (q0 := 0) (As := [.int y, .int a, .int b, .int k]) (rest := []) ⟨hx, hb, hml, hown, hts⟩ (t_X_follow zl dC dI cI cL cS cR htr x uh jh rh sa ra th lo tr pe vh vt vf va vb js jn jv n y a b k hbad) (cwV 4 hts (us_gV uw_3_67 uw_3_68 uw_3_69 uw_1_1 k_X_follow) rfl rfl rfl h_X_follow ⟨by decide, by decide⟩) ⟨rfl, rfl⟩ hK hP hS (us_hE hAe hP0 hS hEL) [0, 1, 2] rfl rfl rfl rfl hl.1 rfl (Nat.le_of_ble_eq_true rfl) d_L_follow_6 ⟨by decide, by decide⟩ ht0 (fun k hk z hz => by cases hz) r0 (fun ex H hP hS _ => ?_)
  rw [q03]
  refine W.widen (k := 1) (n := 6) (by decide) (by decide) ?_
  refine W.eq (g2 := F0 zm 12 ls [.ref ex]) rfl ?_
  refine lv_astore (lv' := [(5, .ref ex), (0, .ref x), (1, .int y), (2, .int a), (3, .int b), (4, .int k)]) hx hb d_L_follow_12 hl (by decide) rfl (fun ls hl => ?_)
  refine lv_iconst (v := (1 : Int32)) hx hb d_L_follow_14 (by decide) ?_
  exact us_iret hQ (by decide) (by decide) hx hb hr hlk hK hS () rfl (by simp) hP hD d_L_follow_15

set_option maxHeartbeats 4000000 in
set_option maxRecDepth 100000 in
theorem t_L_poll (zl : Launch) (dC : Nat → ClassId) (dI : Nat → Nat → Nat) (cI cL cS cR : ClassId) (htr : ∀ e : Env, zl.admits e → e.platform.stackTraces = false) (x : Nat) (uh : Nat) (jh : Nat) (rh : Nat) (sa : Nat) (ra : Nat) (th : Nat) (lo : Nat) (tr : Nat) (pe : Int32) (y : Int32) (k : Int32) (ou : Nat) (OU : Nat → Int64) (hbad : ¬ ((0 ≤ y ∧ y < 4) ∧ 1 ≤ k ∧ k ≤ 4)) : us_MetH (S := Unit) zl y_L_poll w_L_poll ({ frames := 7, cells := 1, slots := 6, locals := 115 }) (dC, dI) vwCl (us_ty cI cL cS cR) [.ref x, .int y, .int k, .ref ou] [(x, .inr (7, [.int pe, .ref uh, .ref jh, .ref rh, .ref sa, .ref ra, .ref th, .ref lo, .ref tr])), (ou, .inl (cL, 1, .inr (.inl OU)))] (fun u => some (.int (1 : Int32))) (fun u => True) (fun u => [(x, .inr (7, [.int pe, .ref uh, .ref jh, .ref rh, .ref sa, .ref ra, .ref th, .ref lo, .ref tr])), (ou, .inl (cL, 1, .inr (.inl OU)))]) := by
  refine us_ofH (cc := b_L_poll) (maxL := 5) (ret := (some .int)) (by decide) (Nat.le_of_ble_eq_true rfl) ?_
  intro zp ze zs zm args below meth zc zA ls zQ hQ hx hb hr hml hts hown hlk had htb hAe hEL hl hK hP hD hS hA
  have hP0 := hP
  have hown : zs.vm.findClass "UpcastStreamsLaw" = some zm.cls := hown
  have hl : lv_has ls 5 [(0, .ref x), (1, .int y), (2, .int k), (3, .ref ou)] := hl
  obtain ⟨H, hH⟩ : ∃ H, H = zs.heap := ⟨_, rfl⟩
  rw [← hH] at hP ⊢
  have hS : va_S zA zs.heap H [] := hH ▸ hS
  generalize ([] : List Loc) = locs at hS ⊢
  refine lv_aload_n hx hb d_L_poll_0 rfl (lv_at hl 3 rfl) ?_
  refine lv_iconst (v := (0 : Int32)) hx hb d_L_poll_1 (by decide) ?_
  refine lv_aload_n hx hb d_L_poll_2 rfl (lv_at hl 0 rfl) ?_
  refine lv_iload_n hx hb d_L_poll_3 rfl (lv_at hl 1 rfl) ?_
  refine lv_iload_n hx hb d_L_poll_4 rfl (lv_at hl 2 rfl) ?_
  obtain ⟨y0, ht0, q01, q02, q03, q04⟩ := us_tab1 htb
  have r0 := fun k (hk : zs.vm.findClass "java/lang/IllegalArgumentException" = some k) => us_rowy (e := ze) (pc := 5) (y := y0) (k := k) (X := "java/lang/IllegalArgumentException") (C := "java/lang/IllegalArgumentException") (by rw [had.platform]) hown (by rw [q04]; exact (hts _ uw_2_64)) (by rw [q04]; decide) (us_cov q01 q02 (by decide) (by decide)) hk (fun c hc => us_cast (hEL.1.1 args _ (List.mem_of_getElem? (i := 3) rfl)) hk hc)
  refine us_callT (e := ze) (q0 := 0) (As := [.int y, .int k]) (rest := [.int (0 : Int32), .ref ou]) ⟨hx, hb, hml, hown, hts⟩ (t_X_poll zl dC dI cI cL cS cR htr x uh jh rh sa ra th lo tr pe y k hbad) (cwV 2 hts (us_gV uw_3_78 uw_3_79 uw_3_80 uw_1_1 k_X_poll) rfl rfl rfl h_X_poll ⟨by decide, by decide⟩) ⟨rfl, rfl⟩ hK hP hS (us_hE hAe hP0 hS hEL) [0] rfl rfl rfl rfl hl.1 rfl (Nat.le_of_ble_eq_true rfl) d_L_poll_5 ⟨by decide, by decide⟩ ht0 (fun k hk z hz => by cases hz) r0 (fun ex H hP hS _ => ?_)
  rw [q03]
  refine W.widen (k := 1) (n := 6) (by decide) (by decide) ?_
  refine W.eq (g2 := F0 zm 13 ls [.ref ex]) rfl ?_
  refine lv_astore (lv' := [(4, .ref ex), (0, .ref x), (1, .int y), (2, .int k), (3, .ref ou)]) hx hb d_L_poll_13 hl (by decide) rfl (fun ls hl => ?_)
  refine lv_iconst (v := (1 : Int32)) hx hb d_L_poll_15 (by decide) ?_
  exact us_iret hQ (by decide) (by decide) hx hb hr hlk hK hS () rfl (by simp) hP hD d_L_poll_16

set_option maxHeartbeats 4000000 in
set_option maxRecDepth 100000 in
theorem t_L_done (zl : Launch) (dC : Nat → ClassId) (dI : Nat → Nat → Nat) (cI cL cS cR : ClassId) (htr : ∀ e : Env, zl.admits e → e.platform.stackTraces = false) (x : Nat) (uh : Nat) (jh : Nat) (rh : Nat) (sa : Nat) (ra : Nat) (th : Nat) (lo : Nat) (tr : Nat) (pe : Int32) (y : Int32) (ou : Nat) (OU : Nat → Int64) (hbad : ¬ (0 ≤ y ∧ y < 4)) : us_MetH (S := Unit) zl y_L_done w_L_done ({ frames := 7, cells := 1, slots := 6, locals := 111 }) (dC, dI) vwCl (us_ty cI cL cS cR) [.ref x, .int y, .ref ou] [(x, .inr (7, [.int pe, .ref uh, .ref jh, .ref rh, .ref sa, .ref ra, .ref th, .ref lo, .ref tr])), (ou, .inl (cL, 1, .inr (.inl OU)))] (fun u => some (.int (1 : Int32))) (fun u => True) (fun u => [(x, .inr (7, [.int pe, .ref uh, .ref jh, .ref rh, .ref sa, .ref ra, .ref th, .ref lo, .ref tr])), (ou, .inl (cL, 1, .inr (.inl OU)))]) := by
  refine us_ofH (cc := b_L_done) (maxL := 4) (ret := (some .int)) (by decide) (Nat.le_of_ble_eq_true rfl) ?_
  intro zp ze zs zm args below meth zc zA ls zQ hQ hx hb hr hml hts hown hlk had htb hAe hEL hl hK hP hD hS hA
  have hP0 := hP
  have hown : zs.vm.findClass "UpcastStreamsLaw" = some zm.cls := hown
  have hl : lv_has ls 4 [(0, .ref x), (1, .int y), (2, .ref ou)] := hl
  obtain ⟨H, hH⟩ : ∃ H, H = zs.heap := ⟨_, rfl⟩
  rw [← hH] at hP ⊢
  have hS : va_S zA zs.heap H [] := hH ▸ hS
  generalize ([] : List Loc) = locs at hS ⊢
  refine lv_aload_n hx hb d_L_done_0 rfl (lv_at hl 2 rfl) ?_
  refine lv_iconst (v := (0 : Int32)) hx hb d_L_done_1 (by decide) ?_
  refine lv_aload_n hx hb d_L_done_2 rfl (lv_at hl 0 rfl) ?_
  refine lv_iload_n hx hb d_L_done_3 rfl (lv_at hl 1 rfl) ?_
  obtain ⟨y0, ht0, q01, q02, q03, q04⟩ := us_tab1 htb
  have r0 := fun k (hk : zs.vm.findClass "java/lang/IllegalArgumentException" = some k) => us_rowy (e := ze) (pc := 4) (y := y0) (k := k) (X := "java/lang/IllegalArgumentException") (C := "java/lang/IllegalArgumentException") (by rw [had.platform]) hown (by rw [q04]; exact (hts _ uw_2_64)) (by rw [q04]; decide) (us_cov q01 q02 (by decide) (by decide)) hk (fun c hc => us_cast (hEL.1.1 args _ (List.mem_of_getElem? (i := 3) rfl)) hk hc)
  refine us_callT (e := ze) (q0 := 0) (As := [.int y]) (rest := [.int (0 : Int32), .ref ou]) ⟨hx, hb, hml, hown, hts⟩ (t_X_done zl dC dI cI cL cS cR htr x uh jh rh sa ra th lo tr pe y hbad) (cwV 1 hts (us_gV uw_3_102 uw_3_103 uw_3_104 uw_1_1 k_X_done) rfl rfl rfl h_X_done ⟨by decide, by decide⟩) ⟨rfl, rfl⟩ hK hP hS (us_hE hAe hP0 hS hEL) [0] rfl rfl rfl rfl hl.1 rfl (Nat.le_of_ble_eq_true rfl) d_L_done_4 ⟨by decide, by decide⟩ ht0 (fun k hk z hz => by cases hz) r0 (fun ex H hP hS _ => ?_)
  rw [q03]
  refine W.widen (k := 1) (n := 6) (by decide) (by decide) ?_
  refine W.eq (g2 := F0 zm 12 ls [.ref ex]) rfl ?_
  refine lv_astore_n (lv' := [(3, .ref ex), (0, .ref x), (1, .int y), (2, .ref ou)]) hx hb d_L_done_12 rfl hl (by decide) rfl (fun ls hl => ?_)
  refine lv_iconst (v := (1 : Int32)) hx hb d_L_done_13 (by decide) ?_
  exact us_iret hQ (by decide) (by decide) hx hb hr hlk hK hS () rfl (by simp) hP hD d_L_done_14

set_option maxHeartbeats 4000000 in
set_option maxRecDepth 100000 in
theorem t_L_hand (zl : Launch) (dC : Nat → ClassId) (dI : Nat → Nat → Nat) (cI cL cS cR : ClassId) (htr : ∀ e : Env, zl.admits e → e.platform.stackTraces = false) (x : Nat) (uh : Nat) (jh : Nat) (rh : Nat) (sa : Nat) (ra : Nat) (th : Nat) (lo : Nat) (tr : Nat) (pe : Int32) (wh : Nat) (wt : Nat) (wf : Nat) (wa : Nat) (wb : Nat) (hp : Nat) (hs : Nat) (hn : Nat) (y : Int32) (z : Int32) (ou : Nat) (OU : Nat → Int64) (hbad : ¬ ((0 ≤ y ∧ y < nI hn) ∧ 0 ≤ z ∧ z < 5)) : us_MetH (S := Unit) zl y_L_hand w_L_hand ({ frames := 7, cells := 1, slots := 6, locals := 112 }) (dC, dI) vwCl (us_ty cI cL cS cR) [.ref x, .int y, .int z, .ref ou] [(x, .inr (7, [.int pe, .ref uh, .ref jh, .ref rh, .ref sa, .ref ra, .ref th, .ref lo, .ref tr])), (th, .inr (4, [.ref wh, .ref hp, .ref hs])), (wh, .inr (0, [.ref wt, .ref wf, .ref wa, .ref wb, .int (nI hn)])), (ou, .inl (cL, 1, .inr (.inl OU)))] (fun u => some (.int (1 : Int32))) (fun u => True) (fun u => [(x, .inr (7, [.int pe, .ref uh, .ref jh, .ref rh, .ref sa, .ref ra, .ref th, .ref lo, .ref tr])), (th, .inr (4, [.ref wh, .ref hp, .ref hs])), (wh, .inr (0, [.ref wt, .ref wf, .ref wa, .ref wb, .int (nI hn)])), (ou, .inl (cL, 1, .inr (.inl OU)))]) := by
  refine us_ofH (cc := b_L_hand) (maxL := 5) (ret := (some .int)) (by decide) (Nat.le_of_ble_eq_true rfl) ?_
  intro zp ze zs zm args below meth zc zA ls zQ hQ hx hb hr hml hts hown hlk had htb hAe hEL hl hK hP hD hS hA
  have hP0 := hP
  have hown : zs.vm.findClass "UpcastStreamsLaw" = some zm.cls := hown
  have hl : lv_has ls 5 [(0, .ref x), (1, .int y), (2, .int z), (3, .ref ou)] := hl
  obtain ⟨H, hH⟩ : ∃ H, H = zs.heap := ⟨_, rfl⟩
  rw [← hH] at hP ⊢
  have hS : va_S zA zs.heap H [] := hH ▸ hS
  generalize ([] : List Loc) = locs at hS ⊢
  refine lv_aload_n hx hb d_L_hand_0 rfl (lv_at hl 3 rfl) ?_
  refine lv_iconst (v := (0 : Int32)) hx hb d_L_hand_1 (by decide) ?_
  refine lv_aload_n hx hb d_L_hand_2 rfl (lv_at hl 0 rfl) ?_
  refine lv_iload_n hx hb d_L_hand_3 rfl (lv_at hl 1 rfl) ?_
  refine lv_iload_n hx hb d_L_hand_4 rfl (lv_at hl 2 rfl) ?_
  obtain ⟨y0, ht0, q01, q02, q03, q04⟩ := us_tab1 htb
  have r0 := fun k (hk : zs.vm.findClass "java/util/NoSuchElementException" = some k) => us_rowy (e := ze) (pc := 5) (y := y0) (k := k) (X := "java/util/NoSuchElementException") (C := "java/util/NoSuchElementException") (by rw [had.platform]) hown (by rw [q04]; exact (hts _ uw_3_7)) (by rw [q04]; decide) (us_cov q01 q02 (by decide) (by decide)) hk (fun c hc => us_cast (hEL.1.1 args _ (List.mem_of_getElem? (i := 6) rfl)) hk hc)
  refine us_callT (e := ze) (q0 := 0) (As := [.int y, .int z]) (rest := [.int (0 : Int32), .ref ou]) ⟨hx, hb, hml, hown, hts⟩ (t_X_hand zl dC dI cI cL cS cR htr x uh jh rh sa ra th lo tr pe wh wt wf wa wb hp hs hn y z hbad) (cwV 2 hts (us_gV uw_3_113 uw_3_114 uw_3_115 uw_1_1 k_X_hand) rfl rfl rfl h_X_hand ⟨by decide, by decide⟩) ⟨rfl, rfl⟩ hK hP hS (us_hE hAe hP0 hS hEL) [0, 1, 2] rfl rfl rfl rfl hl.1 rfl (Nat.le_of_ble_eq_true rfl) d_L_hand_5 ⟨by decide, by decide⟩ ht0 (fun k hk z hz => by cases hz) r0 (fun ex H hP hS _ => ?_)
  rw [q03]
  refine W.widen (k := 1) (n := 6) (by decide) (by decide) ?_
  refine W.eq (g2 := F0 zm 13 ls [.ref ex]) rfl ?_
  refine lv_astore (lv' := [(4, .ref ex), (0, .ref x), (1, .int y), (2, .int z), (3, .ref ou)]) hx hb d_L_hand_13 hl (by decide) rfl (fun ls hl => ?_)
  refine lv_iconst (v := (1 : Int32)) hx hb d_L_hand_15 (by decide) ?_
  exact us_iret hQ (by decide) (by decide) hx hb hr hlk hK hS () rfl (by simp) hP hD d_L_hand_16

set_option maxHeartbeats 4000000 in
set_option maxRecDepth 100000 in
theorem t_L_commit1 (zl : Launch) (dC : Nat → ClassId) (dI : Nat → Nat → Nat) (cI cL cS cR : ClassId) (htr : ∀ e : Env, zl.admits e → e.platform.stackTraces = false) (x : Nat) (uh : Nat) (jh : Nat) (rh : Nat) (sa : Nat) (ra : Nat) (th : Nat) (lo : Nat) (tr : Nat) (pe : Int32) (ut : Nat) (uf : Nat) (ua : Nat) (ub : Nat) (un : Nat) (y : Int32) (w : Int32) (ou : Nat) (OU : Nat → Int64) (hbad : ¬ ((0 ≤ y ∧ y < 8) ∧ ¬ nI un = 0)) : us_MetH (S := Unit) zl y_L_commit w_L_commit ({ frames := 7, cells := 1, slots := 6, locals := 115 }) (dC, dI) vwCl (us_ty cI cL cS cR) [.ref x, .int y, .int w, .ref ou] [(x, .inr (7, [.int pe, .ref uh, .ref jh, .ref rh, .ref sa, .ref ra, .ref th, .ref lo, .ref tr])), (uh, .inr (0, [.ref ut, .ref uf, .ref ua, .ref ub, .int (nI un)])), (ou, .inl (cL, 1, .inr (.inl OU)))] (fun u => some (.int (1 : Int32))) (fun u => True) (fun u => [(x, .inr (7, [.int pe, .ref uh, .ref jh, .ref rh, .ref sa, .ref ra, .ref th, .ref lo, .ref tr])), (uh, .inr (0, [.ref ut, .ref uf, .ref ua, .ref ub, .int (nI un)])), (ou, .inl (cL, 1, .inr (.inl OU)))]) := by
  refine us_ofH (cc := b_L_commit) (maxL := 5) (ret := (some .int)) (by decide) (Nat.le_of_ble_eq_true rfl) ?_
  intro zp ze zs zm args below meth zc zA ls zQ hQ hx hb hr hml hts hown hlk had htb hAe hEL hl hK hP hD hS hA
  have hP0 := hP
  have hown : zs.vm.findClass "UpcastStreamsLaw" = some zm.cls := hown
  have hl : lv_has ls 5 [(0, .ref x), (1, .int y), (2, .int w), (3, .ref ou)] := hl
  obtain ⟨H, hH⟩ : ∃ H, H = zs.heap := ⟨_, rfl⟩
  rw [← hH] at hP ⊢
  have hS : va_S zA zs.heap H [] := hH ▸ hS
  generalize ([] : List Loc) = locs at hS ⊢
  refine lv_aload_n hx hb d_L_commit_0 rfl (lv_at hl 3 rfl) ?_
  refine lv_iconst (v := (0 : Int32)) hx hb d_L_commit_1 (by decide) ?_
  refine lv_aload_n hx hb d_L_commit_2 rfl (lv_at hl 0 rfl) ?_
  refine lv_iload_n hx hb d_L_commit_3 rfl (lv_at hl 1 rfl) ?_
  refine lv_iload_n hx hb d_L_commit_4 rfl (lv_at hl 2 rfl) ?_
  obtain ⟨y0, y1, y2, ht0, ⟨q01, q02, q03, q04⟩, ⟨q11, q12, q13, q14⟩, ⟨q21, q22, q23, q24⟩⟩ := us_tab3 htb
  have ht0 : zc.exceptionTable.toList = [] ++ y0 :: [y1, y2] := ht0
  have r0 := fun k (hk : zs.vm.findClass "java/lang/IllegalArgumentException" = some k) => us_rowy (e := ze) (pc := 5) (y := y0) (k := k) (X := "java/lang/IllegalArgumentException") (C := "java/lang/IllegalArgumentException") (by rw [had.platform]) hown (by rw [q04]; exact (hts _ uw_2_64)) (by rw [q04]; decide) (us_cov q01 q02 (by decide) (by decide)) hk (fun c hc => us_cast (hEL.1.1 args _ (List.mem_of_getElem? (i := 3) rfl)) hk hc)
  refine us_callT (e := ze) (q0 := 0) (As := [.int y, .int w]) (rest := [.int (0 : Int32), .ref ou]) ⟨hx, hb, hml, hown, hts⟩ (t_X_commit1 zl dC dI cI cL cS cR htr x uh jh rh sa ra th lo tr pe ut uf ua ub un y w hbad) (cwV 2 hts (us_gV uw_2_67 uw_2_68 uw_2_69 uw_1_1 k_X_commit) rfl rfl rfl h_X_commit ⟨by decide, by decide⟩) ⟨rfl, rfl⟩ hK hP hS (us_hE hAe hP0 hS hEL) [0, 1] rfl rfl rfl rfl hl.1 rfl (Nat.le_of_ble_eq_true rfl) d_L_commit_5 ⟨by decide, by decide⟩ ht0 (fun k hk z hz => by cases hz) r0 (fun ex H hP hS _ => ?_)
  rw [q03]
  refine W.widen (k := 1) (n := 6) (by decide) (by decide) ?_
  refine W.eq (g2 := F0 zm 13 ls [.ref ex]) rfl ?_
  refine lv_astore (lv' := [(4, .ref ex), (0, .ref x), (1, .int y), (2, .int w), (3, .ref ou)]) hx hb d_L_commit_13 hl (by decide) rfl (fun ls hl => ?_)
  refine lv_iconst (v := (1 : Int32)) hx hb d_L_commit_15 (by decide) ?_
  exact us_iret hQ (by decide) (by decide) hx hb hr hlk hK hS () rfl (by simp) hP hD d_L_commit_16

set_option maxHeartbeats 4000000 in
set_option maxRecDepth 100000 in
theorem t_L_commit2 (zl : Launch) (dC : Nat → ClassId) (dI : Nat → Nat → Nat) (cI cL cS cR : ClassId) (htr : ∀ e : Env, zl.admits e → e.platform.stackTraces = false) (x : Nat) (uh : Nat) (jh : Nat) (rh : Nat) (sa : Nat) (ra : Nat) (th : Nat) (lo : Nat) (tr : Nat) (pe : Int32) (ut : Nat) (uf : Nat) (ua : Nat) (ub : Nat) (un : Nat) (vh : Nat) (vt : Nat) (vf : Nat) (va : Nat) (vb : Nat) (n : Nat) (js : Nat) (jn : Nat) (jv : Nat) (j : Nat) (Z : Nat → Int32) (w : Int32) (ou : Nat) (OU : Nat → Int64) (hj : j < 8) (hun : ¬ nI un = 0) (hw1 : ¬ w = -1) (hw2 : ¬ w = Z j) : us_MetH (S := Unit) zl y_L_commit w_L_commit ({ frames := 7, cells := 1, slots := 6, locals := 115 }) (dC, dI) vwCl (us_ty cI cL cS cR) [.ref x, .int (nI j), .int w, .ref ou] [(x, .inr (7, [.int pe, .ref uh, .ref jh, .ref rh, .ref sa, .ref ra, .ref th, .ref lo, .ref tr])), (uh, .inr (0, [.ref ut, .ref uf, .ref ua, .ref ub, .int (nI un)])), (jh, .inr (3, [.ref vh, .ref js, .ref jn, .ref jv])), (vh, .inr (0, [.ref vt, .ref vf, .ref va, .ref vb, .int (nI n)])), (jv, .inl (cI, 8, .inl Z)), (ou, .inl (cL, 1, .inr (.inl OU)))] (fun u => some (.int (2 : Int32))) (fun u => True) (fun u => [(x, .inr (7, [.int pe, .ref uh, .ref jh, .ref rh, .ref sa, .ref ra, .ref th, .ref lo, .ref tr])), (uh, .inr (0, [.ref ut, .ref uf, .ref ua, .ref ub, .int (nI un)])), (jh, .inr (3, [.ref vh, .ref js, .ref jn, .ref jv])), (vh, .inr (0, [.ref vt, .ref vf, .ref va, .ref vb, .int (nI n)])), (jv, .inl (cI, 8, .inl Z)), (ou, .inl (cL, 1, .inr (.inl OU)))]) := by
  refine us_ofH (cc := b_L_commit) (maxL := 5) (ret := (some .int)) (by decide) (Nat.le_of_ble_eq_true rfl) ?_
  intro zp ze zs zm args below meth zc zA ls zQ hQ hx hb hr hml hts hown hlk had htb hAe hEL hl hK hP hD hS hA
  have hP0 := hP
  have hown : zs.vm.findClass "UpcastStreamsLaw" = some zm.cls := hown
  have hl : lv_has ls 5 [(0, .ref x), (1, .int (nI j)), (2, .int w), (3, .ref ou)] := hl
  obtain ⟨H, hH⟩ : ∃ H, H = zs.heap := ⟨_, rfl⟩
  rw [← hH] at hP ⊢
  have hS : va_S zA zs.heap H [] := hH ▸ hS
  generalize ([] : List Loc) = locs at hS ⊢
  refine lv_aload_n hx hb d_L_commit_0 rfl (lv_at hl 3 rfl) ?_
  refine lv_iconst (v := (0 : Int32)) hx hb d_L_commit_1 (by decide) ?_
  refine lv_aload_n hx hb d_L_commit_2 rfl (lv_at hl 0 rfl) ?_
  refine lv_iload_n hx hb d_L_commit_3 rfl (lv_at hl 1 rfl) ?_
  refine lv_iload_n hx hb d_L_commit_4 rfl (lv_at hl 2 rfl) ?_
  obtain ⟨y0, y1, y2, ht0, ⟨q01, q02, q03, q04⟩, ⟨q11, q12, q13, q14⟩, ⟨q21, q22, q23, q24⟩⟩ := us_tab3 htb
  have ht0 : zc.exceptionTable.toList = [y0] ++ y1 :: [y2] := ht0
  have r0 := fun k (hk : zs.vm.findClass "java/lang/IllegalStateException" = some k) => us_rowy (e := ze) (pc := 5) (y := y0) (k := k) (X := "java/lang/IllegalStateException") (C := "java/lang/IllegalArgumentException") (by rw [had.platform]) hown (by rw [q04]; exact (hts _ uw_2_64)) (by rw [q04]; decide) (us_cov q01 q02 (by decide) (by decide)) hk (fun c hc => hEL.2 ("java/lang/IllegalStateException", "java/lang/IllegalArgumentException") (by decide) k c hk hc)
  have r1 := fun k (hk : zs.vm.findClass "java/lang/IllegalStateException" = some k) => us_rowy (e := ze) (pc := 5) (y := y1) (k := k) (X := "java/lang/IllegalStateException") (C := "java/lang/IllegalStateException") (by rw [had.platform]) hown (by rw [q14]; exact (hts _ uw_2_65)) (by rw [q14]; decide) (us_cov q11 q12 (by decide) (by decide)) hk (fun c hc => us_cast (hEL.1.1 args _ (List.mem_of_getElem? (i := 4) rfl)) hk hc)
  refine us_callT (e := ze) (q0 := 0) (As := [.int (nI j), .int w]) (rest := [.int (0 : Int32), .ref ou]) ⟨hx, hb, hml, hown, hts⟩ (t_X_commit2 zl dC dI cI cL cS cR htr x uh jh rh sa ra th lo tr pe ut uf ua ub un vh vt vf va vb n js jn jv j Z w hj hun hw1 hw2) (cwV 2 hts (us_gV uw_2_67 uw_2_68 uw_2_69 uw_1_1 k_X_commit) rfl rfl rfl h_X_commit ⟨by decide, by decide⟩) ⟨rfl, rfl⟩ hK hP hS (us_hE hAe hP0 hS hEL) [0, 1, 2, 3, 4] rfl rfl rfl rfl hl.1 rfl (Nat.le_of_ble_eq_true rfl) d_L_commit_5 ⟨by decide, by decide⟩ ht0 (fun k hk z hz => by rw [List.mem_singleton] at hz; subst hz; exact r0 k hk) r1 (fun ex H hP hS _ => ?_)
  rw [q13]
  refine W.widen (k := 1) (n := 6) (by decide) (by decide) ?_
  refine W.eq (g2 := F0 zm 17 ls [.ref ex]) rfl ?_
  refine lv_astore (lv' := [(4, .ref ex), (0, .ref x), (1, .int (nI j)), (2, .int w), (3, .ref ou)]) hx hb d_L_commit_17 hl (by decide) rfl (fun ls hl => ?_)
  refine lv_iconst (v := (2 : Int32)) hx hb d_L_commit_19 (by decide) ?_
  exact us_iret hQ (by decide) (by decide) hx hb hr hlk hK hS () rfl (by simp) hP hD d_L_commit_20

set_option maxHeartbeats 4000000 in
set_option maxRecDepth 100000 in
theorem t_L_commit3 (zl : Launch) (dC : Nat → ClassId) (dI : Nat → Nat → Nat) (cI cL cS cR : ClassId) (htr : ∀ e : Env, zl.admits e → e.platform.stackTraces = false) (x : Nat) (uh : Nat) (jh : Nat) (rh : Nat) (sa : Nat) (ra : Nat) (th : Nat) (lo : Nat) (tr : Nat) (pe : Int32) (ut : Nat) (uf : Nat) (ua : Nat) (ub : Nat) (un : Nat) (vh : Nat) (vt : Nat) (vf : Nat) (va : Nat) (vb : Nat) (n : Nat) (js : Nat) (jn : Nat) (jv : Nat) (j : Nat) (Z : Nat → Int32) (w : Int32) (ou : Nat) (OU : Nat → Int64) (hj : j < 8) (hun : ¬ nI un = 0) (hw : w = -1 ∨ w = Z j) (hfull : ¬ nI n + nI un ≤ 64) : us_MetH (S := Unit) zl y_L_commit w_L_commit ({ frames := 7, cells := 1, slots := 6, locals := 115 }) (dC, dI) vwCl (us_ty cI cL cS cR) [.ref x, .int (nI j), .int w, .ref ou] [(x, .inr (7, [.int pe, .ref uh, .ref jh, .ref rh, .ref sa, .ref ra, .ref th, .ref lo, .ref tr])), (uh, .inr (0, [.ref ut, .ref uf, .ref ua, .ref ub, .int (nI un)])), (jh, .inr (3, [.ref vh, .ref js, .ref jn, .ref jv])), (vh, .inr (0, [.ref vt, .ref vf, .ref va, .ref vb, .int (nI n)])), (jv, .inl (cI, 8, .inl Z)), (ou, .inl (cL, 1, .inr (.inl OU)))] (fun u => some (.int (3 : Int32))) (fun u => True) (fun u => [(x, .inr (7, [.int pe, .ref uh, .ref jh, .ref rh, .ref sa, .ref ra, .ref th, .ref lo, .ref tr])), (uh, .inr (0, [.ref ut, .ref uf, .ref ua, .ref ub, .int (nI un)])), (jh, .inr (3, [.ref vh, .ref js, .ref jn, .ref jv])), (vh, .inr (0, [.ref vt, .ref vf, .ref va, .ref vb, .int (nI n)])), (jv, .inl (cI, 8, .inl Z)), (ou, .inl (cL, 1, .inr (.inl OU)))]) := by
  refine us_ofH (cc := b_L_commit) (maxL := 5) (ret := (some .int)) (by decide) (Nat.le_of_ble_eq_true rfl) ?_
  intro zp ze zs zm args below meth zc zA ls zQ hQ hx hb hr hml hts hown hlk had htb hAe hEL hl hK hP hD hS hA
  have hP0 := hP
  have hown : zs.vm.findClass "UpcastStreamsLaw" = some zm.cls := hown
  have hl : lv_has ls 5 [(0, .ref x), (1, .int (nI j)), (2, .int w), (3, .ref ou)] := hl
  obtain ⟨H, hH⟩ : ∃ H, H = zs.heap := ⟨_, rfl⟩
  rw [← hH] at hP ⊢
  have hS : va_S zA zs.heap H [] := hH ▸ hS
  generalize ([] : List Loc) = locs at hS ⊢
  refine lv_aload_n hx hb d_L_commit_0 rfl (lv_at hl 3 rfl) ?_
  refine lv_iconst (v := (0 : Int32)) hx hb d_L_commit_1 (by decide) ?_
  refine lv_aload_n hx hb d_L_commit_2 rfl (lv_at hl 0 rfl) ?_
  refine lv_iload_n hx hb d_L_commit_3 rfl (lv_at hl 1 rfl) ?_
  refine lv_iload_n hx hb d_L_commit_4 rfl (lv_at hl 2 rfl) ?_
  obtain ⟨y0, y1, y2, ht0, ⟨q01, q02, q03, q04⟩, ⟨q11, q12, q13, q14⟩, ⟨q21, q22, q23, q24⟩⟩ := us_tab3 htb
  have ht0 : zc.exceptionTable.toList = [y0, y1] ++ y2 :: [] := ht0
  have r0 := fun k (hk : zs.vm.findClass "java/lang/UnsupportedOperationException" = some k) => us_rowy (e := ze) (pc := 5) (y := y0) (k := k) (X := "java/lang/UnsupportedOperationException") (C := "java/lang/IllegalArgumentException") (by rw [had.platform]) hown (by rw [q04]; exact (hts _ uw_2_64)) (by rw [q04]; decide) (us_cov q01 q02 (by decide) (by decide)) hk (fun c hc => hEL.2 ("java/lang/UnsupportedOperationException", "java/lang/IllegalArgumentException") (by decide) k c hk hc)
  have r1 := fun k (hk : zs.vm.findClass "java/lang/UnsupportedOperationException" = some k) => us_rowy (e := ze) (pc := 5) (y := y1) (k := k) (X := "java/lang/UnsupportedOperationException") (C := "java/lang/IllegalStateException") (by rw [had.platform]) hown (by rw [q14]; exact (hts _ uw_2_65)) (by rw [q14]; decide) (us_cov q11 q12 (by decide) (by decide)) hk (fun c hc => hEL.2 ("java/lang/UnsupportedOperationException", "java/lang/IllegalStateException") (by decide) k c hk hc)
  have r2 := fun k (hk : zs.vm.findClass "java/lang/UnsupportedOperationException" = some k) => us_rowy (e := ze) (pc := 5) (y := y2) (k := k) (X := "java/lang/UnsupportedOperationException") (C := "java/lang/UnsupportedOperationException") (by rw [had.platform]) hown (by rw [q24]; exact (hts _ uw_2_66)) (by rw [q24]; decide) (us_cov q21 q22 (by decide) (by decide)) hk (fun c hc => us_cast (hEL.1.1 args _ (List.mem_of_getElem? (i := 5) rfl)) hk hc)
  refine us_callT (e := ze) (q0 := 0) (As := [.int (nI j), .int w]) (rest := [.int (0 : Int32), .ref ou]) ⟨hx, hb, hml, hown, hts⟩ (t_X_commit3 zl dC dI cI cL cS cR htr x uh jh rh sa ra th lo tr pe ut uf ua ub un vh vt vf va vb n js jn jv j Z w hj hun hw hfull) (cwV 2 hts (us_gV uw_2_67 uw_2_68 uw_2_69 uw_1_1 k_X_commit) rfl rfl rfl h_X_commit ⟨by decide, by decide⟩) ⟨rfl, rfl⟩ hK hP hS (us_hE hAe hP0 hS hEL) [0, 1, 2, 3, 4] rfl rfl rfl rfl hl.1 rfl (Nat.le_of_ble_eq_true rfl) d_L_commit_5 ⟨by decide, by decide⟩ ht0 (fun k hk z hz => by simp only [List.mem_cons, List.not_mem_nil, or_false] at hz; rcases hz with rfl | rfl; exact r0 k hk; exact r1 k hk) r2 (fun ex H hP hS _ => ?_)
  rw [q23]
  refine W.widen (k := 1) (n := 6) (by decide) (by decide) ?_
  refine W.eq (g2 := F0 zm 21 ls [.ref ex]) rfl ?_
  refine lv_astore (lv' := [(4, .ref ex), (0, .ref x), (1, .int (nI j)), (2, .int w), (3, .ref ou)]) hx hb d_L_commit_21 hl (by decide) rfl (fun ls hl => ?_)
  refine lv_iconst (v := (3 : Int32)) hx hb d_L_commit_23 (by decide) ?_
  exact us_iret hQ (by decide) (by decide) hx hb hr hlk hK hS () rfl (by simp) hP hD d_L_commit_24
