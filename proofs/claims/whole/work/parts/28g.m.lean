set_option maxHeartbeats 4000000 in
set_option maxRecDepth 100000 in
theorem m_storeBatch (zl : Launch) (dC : Nat → ClassId) (dI : Nat → Nat → Nat) (cI cL cS cR : ClassId) (mm : Nat) (p1 : Nat) (p2 : Nat) (p3 : Nat) (p4 : Nat) (p5 : Nat) (p6 : Nat) (p7 : Nat) (p8 : Nat) (p9 : Nat) (p10 : Nat) (p11 : Nat) (p12 : Nat) (p13 : Nat) (p14 : Nat) (p15 : Nat) (p16 : Nat) (p17 : Nat) (p18 : Nat) (p19 : Nat) (p20 : Nat) (p21 : Nat) (p22 : Nat) (mp : Int32) (co : Int32) (cm : Int32) (ope : Int32) (n : Nat) (un : Nat) (he : Nat) (MS : Nat → Int32) (MT : Nat → Int32) (MF : Nat → Int32) (MU : Nat → Int32) (MV : Nat → Int32) (j : Nat) (es : List us_Ev) (bs : List us_Ev) (st : Nat → Nat) (hL : us_ml MS MT MF MU MV n es st) (hB : us_mb MT MF MU MV un bs) (hj : j < 8) (hsum : n + un ≤ 64) (hun4 : un ≤ 4) : us_Met (S := (Nat → Int32) × (Nat → Int32) × (Nat → Int32) × (Nat → Int32) × (Nat → Int32) × Nat × (Nat → Nat)) zl y_M_storeBatch w_M_storeBatch ({ frames := 0, cells := 0, slots := 0, locals := 0 }) (dC, dI) vwCl (us_ty cI cL cS cR) [.ref mm, .int (nI j)] [(mm, .inr (8, [.int mp, .int co, .int (nI n), .ref p1, .ref p2, .ref p3, .ref p4, .ref p5, .int (nI un), .ref p6, .ref p7, .ref p8, .int cm, .ref p9, .ref p10, .ref p11, .int ope, .ref p12, .ref p13, .ref p14, .ref p15, .ref p16, .ref p17, .ref p18, .ref p19, .ref p20, .ref p21, .int (nI he), .ref p22])), (p1, .inl (cI, 64, .inl MS)), (p2, .inl (cI, 68, .inl MT)), (p3, .inl (cI, 68, .inl MF)), (p4, .inl (cI, 68, .inl MU)), (p5, .inl (cI, 68, .inl MV))] (fun _ => none) (fun u => us_ml u.1 u.2.1 u.2.2.1 u.2.2.2.1 u.2.2.2.2.1 u.2.2.2.2.2.1 (es ++ bs) u.2.2.2.2.2.2 ∧ us_mb u.2.1 u.2.2.1 u.2.2.2.1 u.2.2.2.2.1 un bs ∧ u.2.2.2.2.2.1 = n + un ∧ (∀ p, p < n → u.2.2.2.2.2.2 p = st p) ∧ (∀ p, n ≤ p → p < n + un → u.2.2.2.2.2.2 p = j)) (fun u => [(mm, .inr (8, [.int mp, .int co, .int (nI u.2.2.2.2.2.1), .ref p1, .ref p2, .ref p3, .ref p4, .ref p5, .int (nI un), .ref p6, .ref p7, .ref p8, .int cm, .ref p9, .ref p10, .ref p11, .int ope, .ref p12, .ref p13, .ref p14, .ref p15, .ref p16, .ref p17, .ref p18, .ref p19, .ref p20, .ref p21, .int (nI he), .ref p22])), (p1, .inl (cI, 64, .inl u.1)), (p2, .inl (cI, 68, .inl u.2.1)), (p3, .inl (cI, 68, .inl u.2.2.1)), (p4, .inl (cI, 68, .inl u.2.2.2.1)), (p5, .inl (cI, 68, .inl u.2.2.2.2.1))]) := by
  refine us_ofW (cc := b_M_storeBatch) (maxL := 3) (ret := none) (by decide) (Nat.le_of_ble_eq_true rfl) ?_
  intro zp ze zs zm args below meth zc zA ls zQ hQ hx hb hr hml hts hown hlk hin hl hK hP hD hS hA
  have hown : zs.vm.findClass "UpcastStreamsModel" = some zm.cls := hown
  have hl : lv_has ls 3 [(0, .ref mm), (1, .int (nI j))] := hl
  obtain ⟨H, hH⟩ : ∃ H, H = zs.heap := ⟨_, rfl⟩
  rw [← hH] at hP ⊢
  have hS : va_S zA zs.heap H [] := hH ▸ hS
  generalize ([] : List Loc) = locs at hS ⊢
  refine lv_iconst (v := (0 : Int32)) hx hb d_M_storeBatch_0 (by decide) ?_
  refine lv_istore_n (lv' := [(2, .int (0 : Int32)), (0, .ref mm), (1, .int (nI j))]) hx hb d_M_storeBatch_1 rfl hl (by decide) rfl (fun ls hl => ?_)
  have loop2 : ∀ (fuel : Nat) (i : Nat) (a1 : Nat → Int32) (a2 : Nat → Int32) (a3 : Nat → Int32) (a4 : Nat → Int32) (a5 : Nat → Int32) (m : Nat) (sf : Nat → Nat) (H : Heap) (locs : List Loc) (ls : Array Slot), lv_has ls 3 [(2, .int (nI i)), (0, .ref mm), (1, .int (nI j))] → va_P (dC, dI) vwCl [(mm, .inr (8, [.int mp, .int co, .int (nI m), .ref p1, .ref p2, .ref p3, .ref p4, .ref p5, .int (nI un), .ref p6, .ref p7, .ref p8, .int cm, .ref p9, .ref p10, .ref p11, .int ope, .ref p12, .ref p13, .ref p14, .ref p15, .ref p16, .ref p17, .ref p18, .ref p19, .ref p20, .ref p21, .int (nI he), .ref p22])), (p1, .inl (cI, 64, .inl a1)), (p2, .inl (cI, 68, .inl a2)), (p3, .inl (cI, 68, .inl a3)), (p4, .inl (cI, 68, .inl a4)), (p5, .inl (cI, 68, .inl a5))] H → va_D zA [(mm, .inr (8, [.int mp, .int co, .int (nI m), .ref p1, .ref p2, .ref p3, .ref p4, .ref p5, .int (nI un), .ref p6, .ref p7, .ref p8, .int cm, .ref p9, .ref p10, .ref p11, .int ope, .ref p12, .ref p13, .ref p14, .ref p15, .ref p16, .ref p17, .ref p18, .ref p19, .ref p20, .ref p21, .int (nI he), .ref p22])), (p1, .inl (cI, 64, .inl a1)), (p2, .inl (cI, 68, .inl a2)), (p3, .inl (cI, 68, .inl a3)), (p4, .inl (cI, 68, .inl a4)), (p5, .inl (cI, 68, .inl a5))] → va_S zA zs.heap H locs → (i ≤ un) → (us_ml a1 a2 a3 a4 a5 m (es ++ bs.take i) sf) → (us_mb a2 a3 a4 a5 un bs) → (m = n + i) → (∀ p, p < n → sf p = st p) → (∀ p, n ≤ p → p < n + i → sf p = j) → un + 1 - i ≤ fuel → W zp zl ze ({ frames := 0, cells := 0, slots := 0, locals := 0 }) zs zm args below meth zc H locs 0 0 zQ (F0 zm 2 ls []) := by
    intro fuel
    induction fuel with
    | zero => intro i a1 a2 a3 a4 a5 m sf H locs ls hl hP hD hS hi hI hbb hm2 ho hnw hm; exact absurd hm (by omega)
    | succ fuel ih =>
      intro i a1 a2 a3 a4 a5 m sf H locs ls hl hP hD hS hi hI hbb hm2 ho hnw hm
      refine lv_iload_n hx hb d_M_storeBatch_2 rfl (lv_at hl 0 rfl) ?_
      refine lv_aload_n hx hb d_M_storeBatch_3 rfl (lv_at hl 1 rfl) ?_
      refine va_get (D := (dC, dI)) (ci := 8) (v := .int (nI un)) (C := "UpcastStreamsModel") (T := F_M) (N := 29) hx hb hts in_M hown hK hP 0 rfl rfl 8 (by decide) (hts _ uw_3_139) (fun _ h9 => h9) rfl d_M_storeBatch_4 ?_
      refine lv_icmp_ge (tgt := 108) hx hb d_M_storeBatch_7 (by decide) (fun hc => ?_) (fun hc => ?_)
      · have hb2 := hbb.2.1
        have hb4 := hbb.2.2.1
        have hun : i = un := by { have : ¬ i < un := fun z => absurd hc (nI_ge z (by omega)); omega }
        rw [List.take_of_length_le (by omega)] at hI
        rw [hun] at hm2 hnw
        exact us_vret hQ (by decide) (by decide) hx hb hr hlk hK hS (a1, a2, a3, a4, a5, m, sf) rfl (⟨hI, hbb, hm2, ho, hnw⟩) hP hD d_M_storeBatch_108
      · have hb2 := hbb.2.1
        have hb4 := hbb.2.2.1
        have hin2 : i < un := by rcases Nat.lt_or_ge i un with z | z; exact z; exact absurd (nI_le z (by omega)) hc
        obtain ⟨e1, hge⟩ : ∃ e1, bs[i]? = some e1 := ⟨bs[i]'(by omega), List.getElem?_eq_getElem (by omega)⟩
        obtain ⟨g1, g2, g3, g4⟩ := hbb.1 i e1 hge
        have hok := hbb.2.2.2 e1 (List.mem_of_getElem? hge)
        refine lv_aload_n hx hb d_M_storeBatch_10 rfl (lv_at hl 1 rfl) ?_
        refine va_get (D := (dC, dI)) (ci := 8) (v := .ref p1) (C := "UpcastStreamsModel") (T := F_M) (N := 29) hx hb hts in_M hown hK hP 0 rfl rfl 3 (by decide) (hts _ uw_3_134) (fun _ h9 => h9) rfl d_M_storeBatch_11 ?_
        refine lv_aload_n hx hb d_M_storeBatch_14 rfl (lv_at hl 1 rfl) ?_
        refine va_get (D := (dC, dI)) (ci := 8) (v := .int (nI m)) (C := "UpcastStreamsModel") (T := F_M) (N := 29) hx hb hts in_M hown hK hP 0 rfl rfl 2 (by decide) (hts _ uw_3_133) (fun _ h9 => h9) rfl d_M_storeBatch_15 ?_
        refine lv_iload_n hx hb d_M_storeBatch_18 rfl (lv_at hl 2 rfl) ?_
        refine us_iast (j := m) hx hb hK hP hD hS 1 0 rfl rfl (vp_in_nI (by omega) (by omega)) (nI_clamp (by omega)) d_M_storeBatch_19 (fun H locs hP hD hS => ?_)
        have hP : va_P (dC, dI) vwCl [(mm, .inr (8, [.int mp, .int co, .int (nI m), .ref p1, .ref p2, .ref p3, .ref p4, .ref p5, .int (nI un), .ref p6, .ref p7, .ref p8, .int cm, .ref p9, .ref p10, .ref p11, .int ope, .ref p12, .ref p13, .ref p14, .ref p15, .ref p16, .ref p17, .ref p18, .ref p19, .ref p20, .ref p21, .int (nI he), .ref p22])), (p1, .inl (cI, 64, .inl (upd a1 m (nI j)))), (p2, .inl (cI, 68, .inl a2)), (p3, .inl (cI, 68, .inl a3)), (p4, .inl (cI, 68, .inl a4)), (p5, .inl (cI, 68, .inl a5))] H := hP
        have hD : va_D zA [(mm, .inr (8, [.int mp, .int co, .int (nI m), .ref p1, .ref p2, .ref p3, .ref p4, .ref p5, .int (nI un), .ref p6, .ref p7, .ref p8, .int cm, .ref p9, .ref p10, .ref p11, .int ope, .ref p12, .ref p13, .ref p14, .ref p15, .ref p16, .ref p17, .ref p18, .ref p19, .ref p20, .ref p21, .int (nI he), .ref p22])), (p1, .inl (cI, 64, .inl (upd a1 m (nI j)))), (p2, .inl (cI, 68, .inl a2)), (p3, .inl (cI, 68, .inl a3)), (p4, .inl (cI, 68, .inl a4)), (p5, .inl (cI, 68, .inl a5))] := hD
        refine lv_aload_n hx hb d_M_storeBatch_20 rfl (lv_at hl 1 rfl) ?_
        refine va_get (D := (dC, dI)) (ci := 8) (v := .ref p2) (C := "UpcastStreamsModel") (T := F_M) (N := 29) hx hb hts in_M hown hK hP 0 rfl rfl 4 (by decide) (hts _ uw_3_135) (fun _ h9 => h9) rfl d_M_storeBatch_21 ?_
        refine lv_aload_n hx hb d_M_storeBatch_24 rfl (lv_at hl 1 rfl) ?_
        refine va_get (D := (dC, dI)) (ci := 8) (v := .int (nI m)) (C := "UpcastStreamsModel") (T := F_M) (N := 29) hx hb hts in_M hown hK hP 0 rfl rfl 2 (by decide) (hts _ uw_3_133) (fun _ h9 => h9) rfl d_M_storeBatch_25 ?_
        refine lv_aload_n hx hb d_M_storeBatch_28 rfl (lv_at hl 1 rfl) ?_
        refine va_get (D := (dC, dI)) (ci := 8) (v := .ref p2) (C := "UpcastStreamsModel") (T := F_M) (N := 29) hx hb hts in_M hown hK hP 0 rfl rfl 4 (by decide) (hts _ uw_3_135) (fun _ h9 => h9) rfl d_M_storeBatch_29 ?_
        refine lv_bipush (v := (64 : Int32)) hx hb d_M_storeBatch_32 (by decide) ?_
        refine lv_iload_n hx hb d_M_storeBatch_34 rfl (lv_at hl 0 rfl) ?_
        refine lv_iadd hx hb d_M_storeBatch_35 ?_
        refine us_top (show ((64 : Int32) + (nI i)) = (nI (64 + i)) from nI_add 64 i) ?_
        refine us_iald (j := 64 + i) hx hb hK hP 2 0 rfl rfl (vp_in_nI (by omega) (by omega)) (nI_clamp (by omega)) d_M_storeBatch_36 ?_
        refine us_top (show (a2 (64 + i)) = (nI e1.1) from g1) ?_
        refine us_iast (j := m) hx hb hK hP hD hS 2 0 rfl rfl (vp_in_nI (by omega) (by omega)) (nI_clamp (by omega)) d_M_storeBatch_37 (fun H locs hP hD hS => ?_)
        have hP : va_P (dC, dI) vwCl [(mm, .inr (8, [.int mp, .int co, .int (nI m), .ref p1, .ref p2, .ref p3, .ref p4, .ref p5, .int (nI un), .ref p6, .ref p7, .ref p8, .int cm, .ref p9, .ref p10, .ref p11, .int ope, .ref p12, .ref p13, .ref p14, .ref p15, .ref p16, .ref p17, .ref p18, .ref p19, .ref p20, .ref p21, .int (nI he), .ref p22])), (p1, .inl (cI, 64, .inl (upd a1 m (nI j)))), (p2, .inl (cI, 68, .inl (upd a2 m (nI e1.1)))), (p3, .inl (cI, 68, .inl a3)), (p4, .inl (cI, 68, .inl a4)), (p5, .inl (cI, 68, .inl a5))] H := hP
        have hD : va_D zA [(mm, .inr (8, [.int mp, .int co, .int (nI m), .ref p1, .ref p2, .ref p3, .ref p4, .ref p5, .int (nI un), .ref p6, .ref p7, .ref p8, .int cm, .ref p9, .ref p10, .ref p11, .int ope, .ref p12, .ref p13, .ref p14, .ref p15, .ref p16, .ref p17, .ref p18, .ref p19, .ref p20, .ref p21, .int (nI he), .ref p22])), (p1, .inl (cI, 64, .inl (upd a1 m (nI j)))), (p2, .inl (cI, 68, .inl (upd a2 m (nI e1.1)))), (p3, .inl (cI, 68, .inl a3)), (p4, .inl (cI, 68, .inl a4)), (p5, .inl (cI, 68, .inl a5))] := hD
        refine lv_aload_n hx hb d_M_storeBatch_38 rfl (lv_at hl 1 rfl) ?_
        refine va_get (D := (dC, dI)) (ci := 8) (v := .ref p3) (C := "UpcastStreamsModel") (T := F_M) (N := 29) hx hb hts in_M hown hK hP 0 rfl rfl 5 (by decide) (hts _ uw_3_136) (fun _ h9 => h9) rfl d_M_storeBatch_39 ?_
        refine lv_aload_n hx hb d_M_storeBatch_42 rfl (lv_at hl 1 rfl) ?_
        refine va_get (D := (dC, dI)) (ci := 8) (v := .int (nI m)) (C := "UpcastStreamsModel") (T := F_M) (N := 29) hx hb hts in_M hown hK hP 0 rfl rfl 2 (by decide) (hts _ uw_3_133) (fun _ h9 => h9) rfl d_M_storeBatch_43 ?_
        refine lv_aload_n hx hb d_M_storeBatch_46 rfl (lv_at hl 1 rfl) ?_
        refine va_get (D := (dC, dI)) (ci := 8) (v := .ref p3) (C := "UpcastStreamsModel") (T := F_M) (N := 29) hx hb hts in_M hown hK hP 0 rfl rfl 5 (by decide) (hts _ uw_3_136) (fun _ h9 => h9) rfl d_M_storeBatch_47 ?_
        refine lv_bipush (v := (64 : Int32)) hx hb d_M_storeBatch_50 (by decide) ?_
        refine lv_iload_n hx hb d_M_storeBatch_52 rfl (lv_at hl 0 rfl) ?_
        refine lv_iadd hx hb d_M_storeBatch_53 ?_
        refine us_top (show ((64 : Int32) + (nI i)) = (nI (64 + i)) from nI_add 64 i) ?_
        refine us_iald (j := 64 + i) hx hb hK hP 3 0 rfl rfl (vp_in_nI (by omega) (by omega)) (nI_clamp (by omega)) d_M_storeBatch_54 ?_
        refine us_top (show (a3 (64 + i)) = (nI e1.2.1) from g2) ?_
        refine us_iast (j := m) hx hb hK hP hD hS 3 0 rfl rfl (vp_in_nI (by omega) (by omega)) (nI_clamp (by omega)) d_M_storeBatch_55 (fun H locs hP hD hS => ?_)
        have hP : va_P (dC, dI) vwCl [(mm, .inr (8, [.int mp, .int co, .int (nI m), .ref p1, .ref p2, .ref p3, .ref p4, .ref p5, .int (nI un), .ref p6, .ref p7, .ref p8, .int cm, .ref p9, .ref p10, .ref p11, .int ope, .ref p12, .ref p13, .ref p14, .ref p15, .ref p16, .ref p17, .ref p18, .ref p19, .ref p20, .ref p21, .int (nI he), .ref p22])), (p1, .inl (cI, 64, .inl (upd a1 m (nI j)))), (p2, .inl (cI, 68, .inl (upd a2 m (nI e1.1)))), (p3, .inl (cI, 68, .inl (upd a3 m (nI e1.2.1)))), (p4, .inl (cI, 68, .inl a4)), (p5, .inl (cI, 68, .inl a5))] H := hP
        have hD : va_D zA [(mm, .inr (8, [.int mp, .int co, .int (nI m), .ref p1, .ref p2, .ref p3, .ref p4, .ref p5, .int (nI un), .ref p6, .ref p7, .ref p8, .int cm, .ref p9, .ref p10, .ref p11, .int ope, .ref p12, .ref p13, .ref p14, .ref p15, .ref p16, .ref p17, .ref p18, .ref p19, .ref p20, .ref p21, .int (nI he), .ref p22])), (p1, .inl (cI, 64, .inl (upd a1 m (nI j)))), (p2, .inl (cI, 68, .inl (upd a2 m (nI e1.1)))), (p3, .inl (cI, 68, .inl (upd a3 m (nI e1.2.1)))), (p4, .inl (cI, 68, .inl a4)), (p5, .inl (cI, 68, .inl a5))] := hD
        refine lv_aload_n hx hb d_M_storeBatch_56 rfl (lv_at hl 1 rfl) ?_
        refine va_get (D := (dC, dI)) (ci := 8) (v := .ref p4) (C := "UpcastStreamsModel") (T := F_M) (N := 29) hx hb hts in_M hown hK hP 0 rfl rfl 6 (by decide) (hts _ uw_3_137) (fun _ h9 => h9) rfl d_M_storeBatch_57 ?_
        refine lv_aload_n hx hb d_M_storeBatch_60 rfl (lv_at hl 1 rfl) ?_
        refine va_get (D := (dC, dI)) (ci := 8) (v := .int (nI m)) (C := "UpcastStreamsModel") (T := F_M) (N := 29) hx hb hts in_M hown hK hP 0 rfl rfl 2 (by decide) (hts _ uw_3_133) (fun _ h9 => h9) rfl d_M_storeBatch_61 ?_
        refine lv_aload_n hx hb d_M_storeBatch_64 rfl (lv_at hl 1 rfl) ?_
        refine va_get (D := (dC, dI)) (ci := 8) (v := .ref p4) (C := "UpcastStreamsModel") (T := F_M) (N := 29) hx hb hts in_M hown hK hP 0 rfl rfl 6 (by decide) (hts _ uw_3_137) (fun _ h9 => h9) rfl d_M_storeBatch_65 ?_
        refine lv_bipush (v := (64 : Int32)) hx hb d_M_storeBatch_68 (by decide) ?_
        refine lv_iload_n hx hb d_M_storeBatch_70 rfl (lv_at hl 0 rfl) ?_
        refine lv_iadd hx hb d_M_storeBatch_71 ?_
        refine us_top (show ((64 : Int32) + (nI i)) = (nI (64 + i)) from nI_add 64 i) ?_
        refine us_iald (j := 64 + i) hx hb hK hP 4 0 rfl rfl (vp_in_nI (by omega) (by omega)) (nI_clamp (by omega)) d_M_storeBatch_72 ?_
        refine us_top (show (a4 (64 + i)) = e1.2.2.1 from g3) ?_
        refine us_iast (j := m) hx hb hK hP hD hS 4 0 rfl rfl (vp_in_nI (by omega) (by omega)) (nI_clamp (by omega)) d_M_storeBatch_73 (fun H locs hP hD hS => ?_)
        have hP : va_P (dC, dI) vwCl [(mm, .inr (8, [.int mp, .int co, .int (nI m), .ref p1, .ref p2, .ref p3, .ref p4, .ref p5, .int (nI un), .ref p6, .ref p7, .ref p8, .int cm, .ref p9, .ref p10, .ref p11, .int ope, .ref p12, .ref p13, .ref p14, .ref p15, .ref p16, .ref p17, .ref p18, .ref p19, .ref p20, .ref p21, .int (nI he), .ref p22])), (p1, .inl (cI, 64, .inl (upd a1 m (nI j)))), (p2, .inl (cI, 68, .inl (upd a2 m (nI e1.1)))), (p3, .inl (cI, 68, .inl (upd a3 m (nI e1.2.1)))), (p4, .inl (cI, 68, .inl (upd a4 m e1.2.2.1))), (p5, .inl (cI, 68, .inl a5))] H := hP
        have hD : va_D zA [(mm, .inr (8, [.int mp, .int co, .int (nI m), .ref p1, .ref p2, .ref p3, .ref p4, .ref p5, .int (nI un), .ref p6, .ref p7, .ref p8, .int cm, .ref p9, .ref p10, .ref p11, .int ope, .ref p12, .ref p13, .ref p14, .ref p15, .ref p16, .ref p17, .ref p18, .ref p19, .ref p20, .ref p21, .int (nI he), .ref p22])), (p1, .inl (cI, 64, .inl (upd a1 m (nI j)))), (p2, .inl (cI, 68, .inl (upd a2 m (nI e1.1)))), (p3, .inl (cI, 68, .inl (upd a3 m (nI e1.2.1)))), (p4, .inl (cI, 68, .inl (upd a4 m e1.2.2.1))), (p5, .inl (cI, 68, .inl a5))] := hD
        refine lv_aload_n hx hb d_M_storeBatch_74 rfl (lv_at hl 1 rfl) ?_
        refine va_get (D := (dC, dI)) (ci := 8) (v := .ref p5) (C := "UpcastStreamsModel") (T := F_M) (N := 29) hx hb hts in_M hown hK hP 0 rfl rfl 7 (by decide) (hts _ uw_3_138) (fun _ h9 => h9) rfl d_M_storeBatch_75 ?_
        refine lv_aload_n hx hb d_M_storeBatch_78 rfl (lv_at hl 1 rfl) ?_
        refine va_get (D := (dC, dI)) (ci := 8) (v := .int (nI m)) (C := "UpcastStreamsModel") (T := F_M) (N := 29) hx hb hts in_M hown hK hP 0 rfl rfl 2 (by decide) (hts _ uw_3_133) (fun _ h9 => h9) rfl d_M_storeBatch_79 ?_
        refine lv_aload_n hx hb d_M_storeBatch_82 rfl (lv_at hl 1 rfl) ?_
        refine va_get (D := (dC, dI)) (ci := 8) (v := .ref p5) (C := "UpcastStreamsModel") (T := F_M) (N := 29) hx hb hts in_M hown hK hP 0 rfl rfl 7 (by decide) (hts _ uw_3_138) (fun _ h9 => h9) rfl d_M_storeBatch_83 ?_
        refine lv_bipush (v := (64 : Int32)) hx hb d_M_storeBatch_86 (by decide) ?_
        refine lv_iload_n hx hb d_M_storeBatch_88 rfl (lv_at hl 0 rfl) ?_
        refine lv_iadd hx hb d_M_storeBatch_89 ?_
        refine us_top (show ((64 : Int32) + (nI i)) = (nI (64 + i)) from nI_add 64 i) ?_
        refine us_iald (j := 64 + i) hx hb hK hP 5 0 rfl rfl (vp_in_nI (by omega) (by omega)) (nI_clamp (by omega)) d_M_storeBatch_90 ?_
        refine us_top (show (a5 (64 + i)) = e1.2.2.2 from g4) ?_
        refine us_iast (j := m) hx hb hK hP hD hS 5 0 rfl rfl (vp_in_nI (by omega) (by omega)) (nI_clamp (by omega)) d_M_storeBatch_91 (fun H locs hP hD hS => ?_)
        have hP : va_P (dC, dI) vwCl [(mm, .inr (8, [.int mp, .int co, .int (nI m), .ref p1, .ref p2, .ref p3, .ref p4, .ref p5, .int (nI un), .ref p6, .ref p7, .ref p8, .int cm, .ref p9, .ref p10, .ref p11, .int ope, .ref p12, .ref p13, .ref p14, .ref p15, .ref p16, .ref p17, .ref p18, .ref p19, .ref p20, .ref p21, .int (nI he), .ref p22])), (p1, .inl (cI, 64, .inl (upd a1 m (nI j)))), (p2, .inl (cI, 68, .inl (upd a2 m (nI e1.1)))), (p3, .inl (cI, 68, .inl (upd a3 m (nI e1.2.1)))), (p4, .inl (cI, 68, .inl (upd a4 m e1.2.2.1))), (p5, .inl (cI, 68, .inl (upd a5 m e1.2.2.2)))] H := hP
        have hD : va_D zA [(mm, .inr (8, [.int mp, .int co, .int (nI m), .ref p1, .ref p2, .ref p3, .ref p4, .ref p5, .int (nI un), .ref p6, .ref p7, .ref p8, .int cm, .ref p9, .ref p10, .ref p11, .int ope, .ref p12, .ref p13, .ref p14, .ref p15, .ref p16, .ref p17, .ref p18, .ref p19, .ref p20, .ref p21, .int (nI he), .ref p22])), (p1, .inl (cI, 64, .inl (upd a1 m (nI j)))), (p2, .inl (cI, 68, .inl (upd a2 m (nI e1.1)))), (p3, .inl (cI, 68, .inl (upd a3 m (nI e1.2.1)))), (p4, .inl (cI, 68, .inl (upd a4 m e1.2.2.1))), (p5, .inl (cI, 68, .inl (upd a5 m e1.2.2.2)))] := hD
        refine lv_aload_n hx hb d_M_storeBatch_92 rfl (lv_at hl 1 rfl) ?_
        refine lv_aload_n hx hb d_M_storeBatch_93 rfl (lv_at hl 1 rfl) ?_
        refine va_get (D := (dC, dI)) (ci := 8) (v := .int (nI m)) (C := "UpcastStreamsModel") (T := F_M) (N := 29) hx hb hts in_M hown hK hP 0 rfl rfl 2 (by decide) (hts _ uw_3_133) (fun _ h9 => h9) rfl d_M_storeBatch_94 ?_
        refine lv_iconst (v := (1 : Int32)) hx hb d_M_storeBatch_97 (by decide) ?_
        refine lv_iadd hx hb d_M_storeBatch_98 ?_
        refine us_top (show ((nI m) + (1 : Int32)) = (nI (m + 1)) from nI_1 m) ?_
        refine va_put (D := (dC, dI)) (ci := 8) (v := .int (nI (m + 1))) (ty := .int) (C := "UpcastStreamsModel") (T := F_M) (N := 29) hx hb hts in_M t_M t_M_ok n_M hown hK hP hD hS 0 rfl rfl 2 (by decide) (hts _ uw_3_133) (fun _ h9 => h9) rfl (by decide +kernel) rfl rfl (Nat.le_of_ble_eq_true rfl) d_M_storeBatch_99 (fun H locs hP hD hS => ?_)
        have hP : va_P (dC, dI) vwCl [(mm, .inr (8, [.int mp, .int co, .int (nI (m + 1)), .ref p1, .ref p2, .ref p3, .ref p4, .ref p5, .int (nI un), .ref p6, .ref p7, .ref p8, .int cm, .ref p9, .ref p10, .ref p11, .int ope, .ref p12, .ref p13, .ref p14, .ref p15, .ref p16, .ref p17, .ref p18, .ref p19, .ref p20, .ref p21, .int (nI he), .ref p22])), (p1, .inl (cI, 64, .inl (upd a1 m (nI j)))), (p2, .inl (cI, 68, .inl (upd a2 m (nI e1.1)))), (p3, .inl (cI, 68, .inl (upd a3 m (nI e1.2.1)))), (p4, .inl (cI, 68, .inl (upd a4 m e1.2.2.1))), (p5, .inl (cI, 68, .inl (upd a5 m e1.2.2.2)))] H := hP
        have hD : va_D zA [(mm, .inr (8, [.int mp, .int co, .int (nI (m + 1)), .ref p1, .ref p2, .ref p3, .ref p4, .ref p5, .int (nI un), .ref p6, .ref p7, .ref p8, .int cm, .ref p9, .ref p10, .ref p11, .int ope, .ref p12, .ref p13, .ref p14, .ref p15, .ref p16, .ref p17, .ref p18, .ref p19, .ref p20, .ref p21, .int (nI he), .ref p22])), (p1, .inl (cI, 64, .inl (upd a1 m (nI j)))), (p2, .inl (cI, 68, .inl (upd a2 m (nI e1.1)))), (p3, .inl (cI, 68, .inl (upd a3 m (nI e1.2.1)))), (p4, .inl (cI, 68, .inl (upd a4 m e1.2.2.1))), (p5, .inl (cI, 68, .inl (upd a5 m e1.2.2.2)))] := hD
        refine lv_iinc (k := 0) (v := nI (i + 1)) (lv' := [(2, .int (nI (i + 1))), (0, .ref mm), (1, .int (nI j))]) hx hb d_M_storeBatch_102 hl rfl (us_inc _) (by decide) rfl (fun ls hl => ?_)
        refine lv_goto (tgt := 2) hx hb d_M_storeBatch_105 (by decide) ?_
        exact ih (i + 1) (upd a1 m (nI j)) (upd a2 m (nI e1.1)) (upd a3 m (nI e1.2.1)) (upd a4 m e1.2.2.1) (upd a5 m e1.2.2.2) (m + 1) (us_ov sf m j) H locs ls (lv_sub hl [0, 1, 2] rfl) hP hD hS (by omega) (by rw [List.take_succ, hge, ← List.append_assoc]; exact us_ml_app hI e1 hok hj (by omega)) (us_mb_upd hbb (by omega) _ _ _ _) (by omega) (fun p hp => by rw [us_ov_n (by omega)]; exact ho p hp) (fun p h1 h2 => by by_cases hpm : p = m; (rw [hpm, us_ov_s]); (rw [us_ov_n hpm]; exact hnw p h1 (by omega))) (by omega)
  exact loop2 _ 0 MS MT MF MU MV n st _ _ ls (lv_sub hl [0, 1, 2] rfl) hP hD hS (Nat.zero_le _) (by rw [List.take_zero, List.append_nil]; exact hL) hB rfl (fun _ _ => rfl) (fun p h1 h2 => absurd h2 (by omega)) (Nat.le_refl _)
