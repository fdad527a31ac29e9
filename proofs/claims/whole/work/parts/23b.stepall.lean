set_option maxHeartbeats 4000000 in
set_option maxRecDepth 100000 in
theorem c_Rules_stepAll (zl : Launch) (dC : Nat → ClassId) (dI : Nat → Nat → Nat) (cI cL cS cR : ClassId) (h : Nat) (kd : Nat) (ks : Nat) (KD : Nat → Int32) (KS : Nat → Int32) (gh : Nat) (gt : Nat) (gf : Nat) (ga : Nat) (gb : Nat) (n : Nat) (gT : Nat → Int32) (gF : Nat → Int32) (gU : Nat → Int32) (gV : Nat → Int32) (oh : Nat) (ot : Nat) (of : Nat) (oa : Nat) (ob : Nat) (on : Nat) (oT : Nat → Int32) (oF : Nat → Int32) (oU : Nat → Int32) (oV : Nat → Int32) (f : Nat) (es : List us_Ev) (hR : us_rok KD KS) (hrow : us_row gT gF gU gV es) (hn : n = es.length) (hn2 : n ≤ 2) (hev : ∀ z ∈ es, z.1 < 6 ∧ z.2.1 = f) (h1 : 1 ≤ f) (h2 : f < 3) : us_Met (S := (Nat → Int32) × (Nat → Int32) × (Nat → Int32) × (Nat → Int32) × Nat) zl y_Rules_stepAll w_Rules_stepAll ({ frames := 2, cells := 0, slots := 0, locals := 51 }) (dC, dI) vwCl (us_ty cI cL cS cR) [.ref h] [(h, .inr (5, [.ref kd, .ref ks, .ref gh, .ref oh])), (kd, .inl (cI, 12, .inl KD)), (ks, .inl (cI, 12, .inl KS)), (gh, .inr (0, [.ref gt, .ref gf, .ref ga, .ref gb, .int (nI n)])), (gt, .inl (cI, 4, .inl gT)), (gf, .inl (cI, 4, .inl gF)), (ga, .inl (cI, 4, .inl gU)), (gb, .inl (cI, 4, .inl gV)), (oh, .inr (0, [.ref ot, .ref of, .ref oa, .ref ob, .int (nI on)])), (ot, .inl (cI, 4, .inl oT)), (of, .inl (cI, 4, .inl oF)), (oa, .inl (cI, 4, .inl oU)), (ob, .inl (cI, 4, .inl oV))] (fun _ => none) (fun u => us_row u.1 u.2.1 u.2.2.1 u.2.2.2.1 (es.flatMap (us_up1 KD KS)) ∧ u.2.2.2.2 = (es.flatMap (us_up1 KD KS)).length) (fun u => [(h, .inr (5, [.ref kd, .ref ks, .ref oh, .ref gh])), (kd, .inl (cI, 12, .inl KD)), (ks, .inl (cI, 12, .inl KS)), (gh, .inr (0, [.ref gt, .ref gf, .ref ga, .ref gb, .int (nI n)])), (gt, .inl (cI, 4, .inl gT)), (gf, .inl (cI, 4, .inl gF)), (ga, .inl (cI, 4, .inl gU)), (gb, .inl (cI, 4, .inl gV)), (oh, .inr (0, [.ref ot, .ref of, .ref oa, .ref ob, .int (nI u.2.2.2.2)])), (ot, .inl (cI, 4, .inl u.1)), (of, .inl (cI, 4, .inl u.2.1)), (oa, .inl (cI, 4, .inl u.2.2.1)), (ob, .inl (cI, 4, .inl u.2.2.2.1))]) := by
  refine us_ofW (cc := b_Rules_stepAll) (maxL := 3) (ret := none) (by decide) (Nat.le_of_ble_eq_true rfl) ?_
  intro zp ze zs zm args below meth zc zA ls zQ hQ hx hb hr hml hts hown hlk hin hl hK hP hD hS hA
  have hown : zs.vm.findClass "UpcastStreams$Rules" = some zm.cls := hown
  have hl : lv_has ls 3 [(0, .ref h)] := hl
  obtain ⟨H, hH⟩ : ∃ H, H = zs.heap := ⟨_, rfl⟩
  rw [← hH] at hP ⊢
  have hS : va_S zA zs.heap H [] := hH ▸ hS
  generalize ([] : List Loc) = locs at hS ⊢
  refine lv_aload_n hx hb d_Rules_stepAll_0 rfl (lv_at hl 0 rfl) ?_
  refine va_get (D := (dC, dI)) (ci := 5) (v := .ref oh) (C := "UpcastStreams$Rules") (T := F_Rules) (N := 4) hx hb hts in_Rules hown hK hP 0 rfl rfl 3 (by decide) (hts _ uw_1_111) (fun _ h9 => h9) rfl d_Rules_stepAll_1 ?_
  refine lv_astore_n (lv' := [(1, .ref oh), (0, .ref h)]) hx hb d_Rules_stepAll_4 rfl hl (by decide) rfl (fun ls hl => ?_)
  refine lv_aload_n hx hb d_Rules_stepAll_5 rfl (lv_at hl 1 rfl) ?_
  refine lv_aload_n hx hb d_Rules_stepAll_6 rfl (lv_at hl 1 rfl) ?_
  refine va_get (D := (dC, dI)) (ci := 5) (v := .ref gh) (C := "UpcastStreams$Rules") (T := F_Rules) (N := 4) hx hb hts in_Rules hown hK hP 0 rfl rfl 2 (by decide) (hts _ uw_1_110) (fun _ h9 => h9) rfl d_Rules_stepAll_7 ?_
  refine va_put (D := (dC, dI)) (ci := 5) (v := .ref gh) (ty := (.object "UpcastStreams$Row")) (C := "UpcastStreams$Rules") (T := F_Rules) (N := 4) hx hb hts in_Rules t_Rules t_Rules_ok n_Rules hown hK hP hD hS 0 rfl rfl 3 (by decide) (hts _ uw_1_111) (fun _ h9 => h9) rfl (by decide +kernel) rfl rfl (Nat.le_of_ble_eq_true rfl) d_Rules_stepAll_10 (fun H locs hP hD hS => ?_)
  have hP : va_P (dC, dI) vwCl [(h, .inr (5, [.ref kd, .ref ks, .ref gh, .ref gh])), (kd, .inl (cI, 12, .inl KD)), (ks, .inl (cI, 12, .inl KS)), (gh, .inr (0, [.ref gt, .ref gf, .ref ga, .ref gb, .int (nI n)])), (gt, .inl (cI, 4, .inl gT)), (gf, .inl (cI, 4, .inl gF)), (ga, .inl (cI, 4, .inl gU)), (gb, .inl (cI, 4, .inl gV)), (oh, .inr (0, [.ref ot, .ref of, .ref oa, .ref ob, .int (nI on)])), (ot, .inl (cI, 4, .inl oT)), (of, .inl (cI, 4, .inl oF)), (oa, .inl (cI, 4, .inl oU)), (ob, .inl (cI, 4, .inl oV))] H := hP
  have hD : va_D zA [(h, .inr (5, [.ref kd, .ref ks, .ref gh, .ref gh])), (kd, .inl (cI, 12, .inl KD)), (ks, .inl (cI, 12, .inl KS)), (gh, .inr (0, [.ref gt, .ref gf, .ref ga, .ref gb, .int (nI n)])), (gt, .inl (cI, 4, .inl gT)), (gf, .inl (cI, 4, .inl gF)), (ga, .inl (cI, 4, .inl gU)), (gb, .inl (cI, 4, .inl gV)), (oh, .inr (0, [.ref ot, .ref of, .ref oa, .ref ob, .int (nI on)])), (ot, .inl (cI, 4, .inl oT)), (of, .inl (cI, 4, .inl oF)), (oa, .inl (cI, 4, .inl oU)), (ob, .inl (cI, 4, .inl oV))] := hD
  refine lv_aload_n hx hb d_Rules_stepAll_13 rfl (lv_at hl 1 rfl) ?_
  refine lv_aload_n hx hb d_Rules_stepAll_14 rfl (lv_at hl 0 rfl) ?_
  refine va_put (D := (dC, dI)) (ci := 5) (v := .ref oh) (ty := (.object "UpcastStreams$Row")) (C := "UpcastStreams$Rules") (T := F_Rules) (N := 4) hx hb hts in_Rules t_Rules t_Rules_ok n_Rules hown hK hP hD hS 0 rfl rfl 2 (by decide) (hts _ uw_1_110) (fun _ h9 => h9) rfl (by decide +kernel) rfl rfl (Nat.le_of_ble_eq_true rfl) d_Rules_stepAll_15 (fun H locs hP hD hS => ?_)
  have hP : va_P (dC, dI) vwCl [(h, .inr (5, [.ref kd, .ref ks, .ref oh, .ref gh])), (kd, .inl (cI, 12, .inl KD)), (ks, .inl (cI, 12, .inl KS)), (gh, .inr (0, [.ref gt, .ref gf, .ref ga, .ref gb, .int (nI n)])), (gt, .inl (cI, 4, .inl gT)), (gf, .inl (cI, 4, .inl gF)), (ga, .inl (cI, 4, .inl gU)), (gb, .inl (cI, 4, .inl gV)), (oh, .inr (0, [.ref ot, .ref of, .ref oa, .ref ob, .int (nI on)])), (ot, .inl (cI, 4, .inl oT)), (of, .inl (cI, 4, .inl oF)), (oa, .inl (cI, 4, .inl oU)), (ob, .inl (cI, 4, .inl oV))] H := hP
  have hD : va_D zA [(h, .inr (5, [.ref kd, .ref ks, .ref oh, .ref gh])), (kd, .inl (cI, 12, .inl KD)), (ks, .inl (cI, 12, .inl KS)), (gh, .inr (0, [.ref gt, .ref gf, .ref ga, .ref gb, .int (nI n)])), (gt, .inl (cI, 4, .inl gT)), (gf, .inl (cI, 4, .inl gF)), (ga, .inl (cI, 4, .inl gU)), (gb, .inl (cI, 4, .inl gV)), (oh, .inr (0, [.ref ot, .ref of, .ref oa, .ref ob, .int (nI on)])), (ot, .inl (cI, 4, .inl oT)), (of, .inl (cI, 4, .inl oF)), (oa, .inl (cI, 4, .inl oU)), (ob, .inl (cI, 4, .inl oV))] := hD
  refine lv_aload_n hx hb d_Rules_stepAll_18 rfl (lv_at hl 1 rfl) ?_
  refine va_get (D := (dC, dI)) (ci := 5) (v := .ref oh) (C := "UpcastStreams$Rules") (T := F_Rules) (N := 4) hx hb hts in_Rules hown hK hP 0 rfl rfl 2 (by decide) (hts _ uw_1_110) (fun _ h9 => h9) rfl d_Rules_stepAll_19 ?_
  refine us_callV (q0 := 8) (As := []) (rest := []) ⟨hx, hb, hml, hown, hts⟩ (c_Row_clear zl dC dI cI cL cS cR oh ot of oa ob (nI on) ) (cwV 0 hts (us_gV uw_2_189 uw_2_20 uw_2_21 uw_1_3 k_Row_clear) rfl rfl rfl h_Row_clear ⟨by decide, by decide⟩) hK hP hD hS hA [8] rfl (by decide) (fun _ => Nat.le_of_ble_eq_true rfl) rfl rfl rfl hl.1 rfl (Nat.le_of_ble_eq_true rfl) d_Rules_stepAll_22 ⟨by decide, by decide⟩ (fun u H locs w22 hP hD hS => ?_)
  have hP : va_P (dC, dI) vwCl [(h, .inr (5, [.ref kd, .ref ks, .ref oh, .ref gh])), (kd, .inl (cI, 12, .inl KD)), (ks, .inl (cI, 12, .inl KS)), (gh, .inr (0, [.ref gt, .ref gf, .ref ga, .ref gb, .int (nI n)])), (gt, .inl (cI, 4, .inl gT)), (gf, .inl (cI, 4, .inl gF)), (ga, .inl (cI, 4, .inl gU)), (gb, .inl (cI, 4, .inl gV)), (oh, .inr (0, [.ref ot, .ref of, .ref oa, .ref ob, .int (nI 0)])), (ot, .inl (cI, 4, .inl oT)), (of, .inl (cI, 4, .inl oF)), (oa, .inl (cI, 4, .inl oU)), (ob, .inl (cI, 4, .inl oV))] H := hP
  have hD : va_D zA [(h, .inr (5, [.ref kd, .ref ks, .ref oh, .ref gh])), (kd, .inl (cI, 12, .inl KD)), (ks, .inl (cI, 12, .inl KS)), (gh, .inr (0, [.ref gt, .ref gf, .ref ga, .ref gb, .int (nI n)])), (gt, .inl (cI, 4, .inl gT)), (gf, .inl (cI, 4, .inl gF)), (ga, .inl (cI, 4, .inl gU)), (gb, .inl (cI, 4, .inl gV)), (oh, .inr (0, [.ref ot, .ref of, .ref oa, .ref ob, .int (nI 0)])), (ot, .inl (cI, 4, .inl oT)), (of, .inl (cI, 4, .inl oF)), (oa, .inl (cI, 4, .inl oU)), (ob, .inl (cI, 4, .inl oV))] := hD
  try dsimp only at w22
  refine W.eq (g2 := F0 zm 25 ls []) rfl ?_
  refine lv_iconst (v := (0 : Int32)) hx hb d_Rules_stepAll_25 (by decide) ?_
  refine lv_istore_n (lv' := [(2, .int (0 : Int32)), (1, .ref oh), (0, .ref h)]) hx hb d_Rules_stepAll_26 rfl hl (by decide) rfl (fun ls hl => ?_)
  have loop27 : ∀ (fuel : Nat) (i : Nat) (xT : Nat → Int32) (xF : Nat → Int32) (xU : Nat → Int32) (xV : Nat → Int32) (k : Nat) (H : Heap) (locs : List Loc) (ls : Array Slot), lv_has ls 3 [(2, .int (nI i)), (1, .ref oh), (0, .ref h)] → va_P (dC, dI) vwCl [(h, .inr (5, [.ref kd, .ref ks, .ref oh, .ref gh])), (kd, .inl (cI, 12, .inl KD)), (ks, .inl (cI, 12, .inl KS)), (gh, .inr (0, [.ref gt, .ref gf, .ref ga, .ref gb, .int (nI n)])), (gt, .inl (cI, 4, .inl gT)), (gf, .inl (cI, 4, .inl gF)), (ga, .inl (cI, 4, .inl gU)), (gb, .inl (cI, 4, .inl gV)), (oh, .inr (0, [.ref ot, .ref of, .ref oa, .ref ob, .int (nI k)])), (ot, .inl (cI, 4, .inl xT)), (of, .inl (cI, 4, .inl xF)), (oa, .inl (cI, 4, .inl xU)), (ob, .inl (cI, 4, .inl xV))] H → va_D zA [(h, .inr (5, [.ref kd, .ref ks, .ref oh, .ref gh])), (kd, .inl (cI, 12, .inl KD)), (ks, .inl (cI, 12, .inl KS)), (gh, .inr (0, [.ref gt, .ref gf, .ref ga, .ref gb, .int (nI n)])), (gt, .inl (cI, 4, .inl gT)), (gf, .inl (cI, 4, .inl gF)), (ga, .inl (cI, 4, .inl gU)), (gb, .inl (cI, 4, .inl gV)), (oh, .inr (0, [.ref ot, .ref of, .ref oa, .ref ob, .int (nI k)])), (ot, .inl (cI, 4, .inl xT)), (of, .inl (cI, 4, .inl xF)), (oa, .inl (cI, 4, .inl xU)), (ob, .inl (cI, 4, .inl xV))] → va_S zA zs.heap H locs → (i ≤ n) → (us_row xT xF xU xV ((es.take i).flatMap (us_up1 KD KS))) → (k = ((es.take i).flatMap (us_up1 KD KS)).length) → n + 1 - i ≤ fuel → W zp zl ze ({ frames := 2, cells := 0, slots := 0, locals := 51 }) zs zm args below meth zc H locs 0 0 zQ (F0 zm 27 ls []) := by
    intro fuel
    induction fuel with
    | zero => intro i xT xF xU xV k H locs ls hl hP hD hS hi hI hk hm; exact absurd hm (by omega)
    | succ fuel ih =>
      intro i xT xF xU xV k H locs ls hl hP hD hS hi hI hk hm
      refine lv_iload_n hx hb d_Rules_stepAll_27 rfl (lv_at hl 0 rfl) ?_
      refine lv_aload_n hx hb d_Rules_stepAll_28 rfl (lv_at hl 2 rfl) ?_
      refine va_get (D := (dC, dI)) (ci := 5) (v := .ref gh) (C := "UpcastStreams$Rules") (T := F_Rules) (N := 4) hx hb hts in_Rules hown hK hP 0 rfl rfl 3 (by decide) (hts _ uw_1_111) (fun _ h9 => h9) rfl d_Rules_stepAll_29 ?_
      refine va_get (D := (dC, dI)) (ci := 0) (v := .int (nI n)) (C := "UpcastStreams$Row") (T := F_Row) (N := 5) hx hb hts in_Row hown hK hP 3 rfl rfl 4 (by decide) (hts _ uw_1_62) (fun _ h9 => h9) rfl d_Rules_stepAll_32 ?_
      refine lv_icmp_ge (tgt := 84) hx hb d_Rules_stepAll_35 (by decide) (fun hc => ?_) (fun hc => ?_)
      · have hz : es.take i = es := List.take_of_length_le (by have : ¬ i < n := fun z => absurd hc (nI_ge z (by omega)); omega)
        rw [hz] at hI hk
        exact us_vret hQ (by decide) (by decide) hx hb hr hlk hK hS (xT, xF, xU, xV, k) rfl (⟨hI, hk⟩) hP hD d_Rules_stepAll_84
      · have hin2 : i < n := by rcases Nat.lt_or_ge i n with z | z; exact z; exact absurd (nI_le z (by omega)) hc
        obtain ⟨e1, he⟩ : ∃ e1, es[i]? = some e1 := ⟨es[i]'(by omega), List.getElem?_eq_getElem (by omega)⟩
        obtain ⟨r1, r2, r3, r4⟩ := hrow i e1 he
        obtain ⟨ht, hf⟩ := hev e1 (List.mem_of_getElem? he)
        have hkl : k ≤ 2 * i := by have z := us_flat_len (us_up1 KD KS) 2 (us_up1_len KD KS) (es.take i); rw [← hk, List.length_take] at z; omega
        have hul := us_up1_len KD KS e1
        refine lv_aload_n hx hb d_Rules_stepAll_38 rfl (lv_at hl 2 rfl) ?_
        refine lv_aload_n hx hb d_Rules_stepAll_39 rfl (lv_at hl 2 rfl) ?_
        refine va_get (D := (dC, dI)) (ci := 5) (v := .ref gh) (C := "UpcastStreams$Rules") (T := F_Rules) (N := 4) hx hb hts in_Rules hown hK hP 0 rfl rfl 3 (by decide) (hts _ uw_1_111) (fun _ h9 => h9) rfl d_Rules_stepAll_40 ?_
        refine va_get (D := (dC, dI)) (ci := 0) (v := .ref gt) (C := "UpcastStreams$Row") (T := F_Row) (N := 5) hx hb hts in_Row hown hK hP 3 rfl rfl 0 (by decide) (hts _ uw_1_42) (fun _ h9 => h9) rfl d_Rules_stepAll_43 ?_
        refine lv_iload_n hx hb d_Rules_stepAll_46 rfl (lv_at hl 0 rfl) ?_
        refine us_iald (j := i) hx hb hK hP 4 0 rfl rfl (vp_in_nI (by omega) (by omega)) (nI_clamp (by omega)) d_Rules_stepAll_47 ?_
        refine us_top (show (gT i) = (nI e1.1) from r1) ?_
        refine lv_aload_n hx hb d_Rules_stepAll_48 rfl (lv_at hl 2 rfl) ?_
        refine va_get (D := (dC, dI)) (ci := 5) (v := .ref gh) (C := "UpcastStreams$Rules") (T := F_Rules) (N := 4) hx hb hts in_Rules hown hK hP 0 rfl rfl 3 (by decide) (hts _ uw_1_111) (fun _ h9 => h9) rfl d_Rules_stepAll_49 ?_
        refine va_get (D := (dC, dI)) (ci := 0) (v := .ref gf) (C := "UpcastStreams$Row") (T := F_Row) (N := 5) hx hb hts in_Row hown hK hP 3 rfl rfl 1 (by decide) (hts _ uw_1_45) (fun _ h9 => h9) rfl d_Rules_stepAll_52 ?_
        refine lv_iload_n hx hb d_Rules_stepAll_55 rfl (lv_at hl 0 rfl) ?_
        refine us_iald (j := i) hx hb hK hP 5 0 rfl rfl (vp_in_nI (by omega) (by omega)) (nI_clamp (by omega)) d_Rules_stepAll_56 ?_
        refine us_top (show (gF i) = (nI e1.2.1) from r2) ?_
        refine lv_aload_n hx hb d_Rules_stepAll_57 rfl (lv_at hl 2 rfl) ?_
        refine va_get (D := (dC, dI)) (ci := 5) (v := .ref gh) (C := "UpcastStreams$Rules") (T := F_Rules) (N := 4) hx hb hts in_Rules hown hK hP 0 rfl rfl 3 (by decide) (hts _ uw_1_111) (fun _ h9 => h9) rfl d_Rules_stepAll_58 ?_
        refine va_get (D := (dC, dI)) (ci := 0) (v := .ref ga) (C := "UpcastStreams$Row") (T := F_Row) (N := 5) hx hb hts in_Row hown hK hP 3 rfl rfl 2 (by decide) (hts _ uw_1_51) (fun _ h9 => h9) rfl d_Rules_stepAll_61 ?_
        refine lv_iload_n hx hb d_Rules_stepAll_64 rfl (lv_at hl 0 rfl) ?_
        refine us_iald (j := i) hx hb hK hP 6 0 rfl rfl (vp_in_nI (by omega) (by omega)) (nI_clamp (by omega)) d_Rules_stepAll_65 ?_
        refine us_top (show (gU i) = e1.2.2.1 from r3) ?_
        refine lv_aload_n hx hb d_Rules_stepAll_66 rfl (lv_at hl 2 rfl) ?_
        refine va_get (D := (dC, dI)) (ci := 5) (v := .ref gh) (C := "UpcastStreams$Rules") (T := F_Rules) (N := 4) hx hb hts in_Rules hown hK hP 0 rfl rfl 3 (by decide) (hts _ uw_1_111) (fun _ h9 => h9) rfl d_Rules_stepAll_67 ?_
        refine va_get (D := (dC, dI)) (ci := 0) (v := .ref gb) (C := "UpcastStreams$Row") (T := F_Row) (N := 5) hx hb hts in_Row hown hK hP 3 rfl rfl 3 (by decide) (hts _ uw_1_56) (fun _ h9 => h9) rfl d_Rules_stepAll_70 ?_
        refine lv_iload_n hx hb d_Rules_stepAll_73 rfl (lv_at hl 0 rfl) ?_
        refine us_iald (j := i) hx hb hK hP 7 0 rfl rfl (vp_in_nI (by omega) (by omega)) (nI_clamp (by omega)) d_Rules_stepAll_74 ?_
        refine us_top (show (gV i) = e1.2.2.2 from r4) ?_
        refine us_callV (q0 := 0) (As := [.int (nI e1.1), .int (nI e1.2.1), .int e1.2.2.1, .int e1.2.2.2]) (rest := []) ⟨hx, hb, hml, hown, hts⟩ (c_Rules_step zl dC dI cI cL cS cR h kd ks gh e1.1 e1.2.1 KD KS e1.2.2.1 e1.2.2.2 oh ot of oa ob k xT xF xU xV ((es.take i).flatMap (us_up1 KD KS)) ht (by omega) (by omega) hR hI hk (by show k + (us_up1 KD KS e1).length ≤ 4; omega)) (cwV 4 hts (us_gV uw_2_199 uw_2_201 uw_p_4 uw_1_5 k_Rules_step) rfl rfl rfl h_Rules_step ⟨by decide, by decide⟩) hK hP hD hS hA [0, 1, 2, 8, 9, 10, 11, 12] rfl (by decide) (fun _ => Nat.le_of_ble_eq_true rfl) rfl rfl rfl hl.1 rfl (Nat.le_of_ble_eq_true rfl) d_Rules_stepAll_75 ⟨by decide, by decide⟩ (fun u H locs w75 hP hD hS => ?_)
        obtain ⟨y1, y2, y3, y4, y5⟩ := u
        have hP : va_P (dC, dI) vwCl [(h, .inr (5, [.ref kd, .ref ks, .ref oh, .ref gh])), (kd, .inl (cI, 12, .inl KD)), (ks, .inl (cI, 12, .inl KS)), (gh, .inr (0, [.ref gt, .ref gf, .ref ga, .ref gb, .int (nI n)])), (gt, .inl (cI, 4, .inl gT)), (gf, .inl (cI, 4, .inl gF)), (ga, .inl (cI, 4, .inl gU)), (gb, .inl (cI, 4, .inl gV)), (oh, .inr (0, [.ref ot, .ref of, .ref oa, .ref ob, .int (nI y5)])), (ot, .inl (cI, 4, .inl y1)), (of, .inl (cI, 4, .inl y2)), (oa, .inl (cI, 4, .inl y3)), (ob, .inl (cI, 4, .inl y4))] H := hP
        have hD : va_D zA [(h, .inr (5, [.ref kd, .ref ks, .ref oh, .ref gh])), (kd, .inl (cI, 12, .inl KD)), (ks, .inl (cI, 12, .inl KS)), (gh, .inr (0, [.ref gt, .ref gf, .ref ga, .ref gb, .int (nI n)])), (gt, .inl (cI, 4, .inl gT)), (gf, .inl (cI, 4, .inl gF)), (ga, .inl (cI, 4, .inl gU)), (gb, .inl (cI, 4, .inl gV)), (oh, .inr (0, [.ref ot, .ref of, .ref oa, .ref ob, .int (nI y5)])), (ot, .inl (cI, 4, .inl y1)), (of, .inl (cI, 4, .inl y2)), (oa, .inl (cI, 4, .inl y3)), (ob, .inl (cI, 4, .inl y4))] := hD
        try dsimp only at w75
        refine W.eq (g2 := F0 zm 78 ls []) rfl ?_
        refine lv_iinc (k := 0) (v := nI (i + 1)) (lv' := [(2, .int (nI (i + 1))), (1, .ref oh), (0, .ref h)]) hx hb d_Rules_stepAll_78 hl rfl (us_inc _) (by decide) rfl (fun ls hl => ?_)
        refine lv_goto (tgt := 27) hx hb d_Rules_stepAll_81 (by decide) ?_
        exact ih (i + 1) y1 y2 y3 y4 y5 H locs ls (lv_sub hl [0, 1, 2] rfl) hP hD hS (by omega) (by rw [us_tk he]; exact w75.1) (by rw [us_tk he, List.length_append, ← hk]; exact w75.2) (by omega)
  exact loop27 _ 0 oT oF oU oV 0 _ _ ls (lv_sub hl [0, 1, 2] rfl) hP hD hS (Nat.zero_le _) (us_row_nil _ _ _ _) rfl (Nat.le_refl _)
