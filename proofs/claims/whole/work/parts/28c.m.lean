set_option maxHeartbeats 4000000 in
set_option maxRecDepth 100000 in
theorem m_versionOf (zl : Launch) (dC : Nat → ClassId) (dI : Nat → Nat → Nat) (cI cL cS cR : ClassId) (mm : Nat) (p1 : Nat) (p2 : Nat) (p3 : Nat) (p4 : Nat) (p5 : Nat) (p6 : Nat) (p7 : Nat) (p8 : Nat) (p9 : Nat) (p10 : Nat) (p11 : Nat) (p12 : Nat) (p13 : Nat) (p14 : Nat) (p15 : Nat) (p16 : Nat) (p17 : Nat) (p18 : Nat) (p19 : Nat) (p20 : Nat) (p21 : Nat) (p22 : Nat) (mp : Int32) (co : Int32) (cm : Int32) (ope : Int32) (n : Nat) (un : Nat) (he : Nat) (MS : Nat → Int32) (st : Nat → Nat) (y : Int32) (hSt : ∀ p, p < n → MS p = nI (st p) ∧ st p < 8) (hn64 : n ≤ 64) : us_Met (S := Nat) zl y_M_versionOf w_M_versionOf ({ frames := 0, cells := 0, slots := 0, locals := 0 }) (dC, dI) vwCl (us_ty cI cL cS cR) [.ref mm, .int y] [(mm, .inr (8, [.int mp, .int co, .int (nI n), .ref p1, .ref p2, .ref p3, .ref p4, .ref p5, .int (nI un), .ref p6, .ref p7, .ref p8, .int cm, .ref p9, .ref p10, .ref p11, .int ope, .ref p12, .ref p13, .ref p14, .ref p15, .ref p16, .ref p17, .ref p18, .ref p19, .ref p20, .ref p21, .int (nI he), .ref p22])), (p1, .inl (cI, 64, .inl MS))] (fun u => some (.int (nI u))) (fun u => u ≤ n ∧ ∀ j, j < 8 → y = nI j → u = us_num st j n) (fun u => [(mm, .inr (8, [.int mp, .int co, .int (nI n), .ref p1, .ref p2, .ref p3, .ref p4, .ref p5, .int (nI un), .ref p6, .ref p7, .ref p8, .int cm, .ref p9, .ref p10, .ref p11, .int ope, .ref p12, .ref p13, .ref p14, .ref p15, .ref p16, .ref p17, .ref p18, .ref p19, .ref p20, .ref p21, .int (nI he), .ref p22])), (p1, .inl (cI, 64, .inl MS))]) := by
  refine us_ofW (cc := b_M_versionOf) (maxL := 4) (ret := (some .int)) (by decide) (Nat.le_of_ble_eq_true rfl) ?_
  intro zp ze zs zm args below meth zc zA ls zQ hQ hx hb hr hml hts hown hlk hin hl hK hP hD hS hA
  have hown : zs.vm.findClass "UpcastStreamsModel" = some zm.cls := hown
  have hl : lv_has ls 4 [(0, .ref mm), (1, .int y)] := hl
  obtain ⟨H, hH⟩ : ∃ H, H = zs.heap := ⟨_, rfl⟩
  rw [← hH] at hP ⊢
  have hS : va_S zA zs.heap H [] := hH ▸ hS
  generalize ([] : List Loc) = locs at hS ⊢
  refine lv_iconst (v := (0 : Int32)) hx hb d_M_versionOf_0 (by decide) ?_
  refine lv_istore_n (lv' := [(2, .int (0 : Int32)), (0, .ref mm), (1, .int y)]) hx hb d_M_versionOf_1 rfl hl (by decide) rfl (fun ls hl => ?_)
  refine lv_iconst (v := (0 : Int32)) hx hb d_M_versionOf_2 (by decide) ?_
  refine lv_istore_n (lv' := [(3, .int (0 : Int32)), (2, .int (0 : Int32)), (0, .ref mm), (1, .int y)]) hx hb d_M_versionOf_3 rfl hl (by decide) rfl (fun ls hl => ?_)
  have loop4 : ∀ (fuel : Nat) (i : Nat) (k : Nat) (H : Heap) (locs : List Loc) (ls : Array Slot), lv_has ls 4 [(3, .int (nI i)), (2, .int (nI k)), (0, .ref mm), (1, .int y)] → va_P (dC, dI) vwCl [(mm, .inr (8, [.int mp, .int co, .int (nI n), .ref p1, .ref p2, .ref p3, .ref p4, .ref p5, .int (nI un), .ref p6, .ref p7, .ref p8, .int cm, .ref p9, .ref p10, .ref p11, .int ope, .ref p12, .ref p13, .ref p14, .ref p15, .ref p16, .ref p17, .ref p18, .ref p19, .ref p20, .ref p21, .int (nI he), .ref p22])), (p1, .inl (cI, 64, .inl MS))] H → va_D zA [(mm, .inr (8, [.int mp, .int co, .int (nI n), .ref p1, .ref p2, .ref p3, .ref p4, .ref p5, .int (nI un), .ref p6, .ref p7, .ref p8, .int cm, .ref p9, .ref p10, .ref p11, .int ope, .ref p12, .ref p13, .ref p14, .ref p15, .ref p16, .ref p17, .ref p18, .ref p19, .ref p20, .ref p21, .int (nI he), .ref p22])), (p1, .inl (cI, 64, .inl MS))] → va_S zA zs.heap H locs → (i ≤ n) → (k ≤ i) → (∀ j, j < 8 → y = nI j → k = us_num st j i) → n + 1 - i ≤ fuel → W zp zl ze ({ frames := 0, cells := 0, slots := 0, locals := 0 }) zs zm args below meth zc H locs 0 0 zQ (F0 zm 4 ls []) := by
    intro fuel
    induction fuel with
    | zero => intro i k H locs ls hl hP hD hS hi hk hI hm; exact absurd hm (by omega)
    | succ fuel ih =>
      intro i k H locs ls hl hP hD hS hi hk hI hm
      refine lv_iload_n hx hb d_M_versionOf_4 rfl (lv_at hl 0 rfl) ?_
      refine lv_aload_n hx hb d_M_versionOf_5 rfl (lv_at hl 2 rfl) ?_
      refine va_get (D := (dC, dI)) (ci := 8) (v := .int (nI n)) (C := "UpcastStreamsModel") (T := F_M) (N := 29) hx hb hts in_M hown hK hP 0 rfl rfl 2 (by decide) (hts _ uw_3_133) (fun _ h9 => h9) rfl d_M_versionOf_6 ?_
      refine lv_icmp_ge (tgt := 36) hx hb d_M_versionOf_9 (by decide) (fun hc => ?_) (fun hc => ?_)
      · have hin : i = n := by { have : ¬ i < n := fun z => absurd hc (nI_ge z (by omega)); omega }
        refine lv_iload_n hx hb d_M_versionOf_36 rfl (lv_at hl 1 rfl) ?_
        exact us_iret hQ (by decide) (by decide) hx hb hr hlk hK hS k rfl (⟨by omega, by rw [← hin]; exact hI⟩) hP hD d_M_versionOf_37
      · have hin2 : i < n := by rcases Nat.lt_or_ge i n with z | z; exact z; exact absurd (nI_le z (by omega)) hc
        obtain ⟨s1, s2⟩ := hSt i hin2
        refine lv_aload_n hx hb d_M_versionOf_12 rfl (lv_at hl 2 rfl) ?_
        refine va_get (D := (dC, dI)) (ci := 8) (v := .ref p1) (C := "UpcastStreamsModel") (T := F_M) (N := 29) hx hb hts in_M hown hK hP 0 rfl rfl 3 (by decide) (hts _ uw_3_134) (fun _ h9 => h9) rfl d_M_versionOf_13 ?_
        refine lv_iload_n hx hb d_M_versionOf_16 rfl (lv_at hl 0 rfl) ?_
        refine us_iald (j := i) hx hb hK hP 1 0 rfl rfl (vp_in_nI (by omega) (by omega)) (nI_clamp (by omega)) d_M_versionOf_17 ?_
        refine us_top (show (MS i) = (nI (st i)) from s1) ?_
        refine lv_iload_n hx hb d_M_versionOf_18 rfl (lv_at hl 3 rfl) ?_
        refine lv_icmp_ne (tgt := 28) hx hb d_M_versionOf_19 (by decide) (fun c19 => ?_) (fun c19 => ?_)
        · refine lv_iload_n hx hb d_M_versionOf_28 rfl (lv_at hl 1 rfl) ?_
          refine lv_istore_n (lv' := [(2, .int (nI k)), (3, .int (nI i)), (0, .ref mm), (1, .int y)]) hx hb d_M_versionOf_29 rfl hl (by decide) rfl (fun ls hl => ?_)
          refine lv_iinc (k := 1) (v := nI (i + 1)) (lv' := [(3, .int (nI (i + 1))), (2, .int (nI k)), (0, .ref mm), (1, .int y)]) hx hb d_M_versionOf_30 hl rfl (us_inc _) (by decide) rfl (fun ls hl => ?_)
          refine lv_goto (tgt := 4) hx hb d_M_versionOf_33 (by decide) ?_
          exact ih (i + 1) k H locs ls (lv_sub hl [0, 1, 2, 3] rfl) hP hD hS (by omega) (by omega) (fun j hj hy => by rw [us_num_s, if_neg (fun z => c19 (by rw [z]; exact hy.symm)), hI j hj hy]; rfl) (by omega)
        · refine lv_iload_n hx hb d_M_versionOf_22 rfl (lv_at hl 1 rfl) ?_
          refine lv_iconst (v := (1 : Int32)) hx hb d_M_versionOf_23 (by decide) ?_
          refine lv_iadd hx hb d_M_versionOf_24 ?_
          refine us_top (show ((nI k) + (1 : Int32)) = (nI (k + 1)) from nI_1 k) ?_
          refine lv_goto (tgt := 29) hx hb d_M_versionOf_25 (by decide) ?_
          refine lv_istore_n (lv' := [(2, .int (nI (k + 1))), (3, .int (nI i)), (0, .ref mm), (1, .int y)]) hx hb d_M_versionOf_29 rfl hl (by decide) rfl (fun ls hl => ?_)
          refine lv_iinc (k := 1) (v := nI (i + 1)) (lv' := [(3, .int (nI (i + 1))), (2, .int (nI (k + 1))), (0, .ref mm), (1, .int y)]) hx hb d_M_versionOf_30 hl rfl (us_inc _) (by decide) rfl (fun ls hl => ?_)
          refine lv_goto (tgt := 4) hx hb d_M_versionOf_33 (by decide) ?_
          exact ih (i + 1) (k + 1) H locs ls (lv_sub hl [0, 1, 2, 3] rfl) hP hD hS (by omega) (by omega) (fun j hj hy => by rw [us_num_s, if_pos ((nI_eq (by omega) (by omega)).mp (c19.trans hy)), hI j hj hy]) (by omega)
  exact loop4 _ 0 0 _ _ ls (lv_sub hl [0, 1, 2, 3] rfl) hP hD hS (by omega) (by omega) (fun _ _ _ => rfl) (Nat.le_refl _)

set_option maxHeartbeats 4000000 in
set_option maxRecDepth 100000 in
theorem m_numberOf (zl : Launch) (dC : Nat → ClassId) (dI : Nat → Nat → Nat) (cI cL cS cR : ClassId) (mm : Nat) (p1 : Nat) (p2 : Nat) (p3 : Nat) (p4 : Nat) (p5 : Nat) (p6 : Nat) (p7 : Nat) (p8 : Nat) (p9 : Nat) (p10 : Nat) (p11 : Nat) (p12 : Nat) (p13 : Nat) (p14 : Nat) (p15 : Nat) (p16 : Nat) (p17 : Nat) (p18 : Nat) (p19 : Nat) (p20 : Nat) (p21 : Nat) (p22 : Nat) (mp : Int32) (co : Int32) (cm : Int32) (ope : Int32) (n : Nat) (un : Nat) (he : Nat) (MS : Nat → Int32) (st : Nat → Nat) (p : Nat) (hSt : ∀ p, p < n → MS p = nI (st p) ∧ st p < 8) (hn64 : n ≤ 64) (hp : p < n) : us_Met (S := Unit) zl y_M_numberOf w_M_numberOf ({ frames := 0, cells := 0, slots := 0, locals := 0 }) (dC, dI) vwCl (us_ty cI cL cS cR) [.ref mm, .int (nI p)] [(mm, .inr (8, [.int mp, .int co, .int (nI n), .ref p1, .ref p2, .ref p3, .ref p4, .ref p5, .int (nI un), .ref p6, .ref p7, .ref p8, .int cm, .ref p9, .ref p10, .ref p11, .int ope, .ref p12, .ref p13, .ref p14, .ref p15, .ref p16, .ref p17, .ref p18, .ref p19, .ref p20, .ref p21, .int (nI he), .ref p22])), (p1, .inl (cI, 64, .inl MS))] (fun u => some (.int (nI (us_num st (st p) p)))) (fun u => True) (fun u => [(mm, .inr (8, [.int mp, .int co, .int (nI n), .ref p1, .ref p2, .ref p3, .ref p4, .ref p5, .int (nI un), .ref p6, .ref p7, .ref p8, .int cm, .ref p9, .ref p10, .ref p11, .int ope, .ref p12, .ref p13, .ref p14, .ref p15, .ref p16, .ref p17, .ref p18, .ref p19, .ref p20, .ref p21, .int (nI he), .ref p22])), (p1, .inl (cI, 64, .inl MS))]) := by
  refine us_ofW (cc := b_M_numberOf) (maxL := 4) (ret := (some .int)) (by decide) (Nat.le_of_ble_eq_true rfl) ?_
  intro zp ze zs zm args below meth zc zA ls zQ hQ hx hb hr hml hts hown hlk hin hl hK hP hD hS hA
  have hown : zs.vm.findClass "UpcastStreamsModel" = some zm.cls := hown
  have hl : lv_has ls 4 [(0, .ref mm), (1, .int (nI p))] := hl
  obtain ⟨H, hH⟩ : ∃ H, H = zs.heap := ⟨_, rfl⟩
  rw [← hH] at hP ⊢
  have hS : va_S zA zs.heap H [] := hH ▸ hS
  generalize ([] : List Loc) = locs at hS ⊢
  refine lv_iconst (v := (0 : Int32)) hx hb d_M_numberOf_0 (by decide) ?_
  refine lv_istore_n (lv' := [(2, .int (0 : Int32)), (0, .ref mm), (1, .int (nI p))]) hx hb d_M_numberOf_1 rfl hl (by decide) rfl (fun ls hl => ?_)
  refine lv_iconst (v := (0 : Int32)) hx hb d_M_numberOf_2 (by decide) ?_
  refine lv_istore_n (lv' := [(3, .int (0 : Int32)), (2, .int (0 : Int32)), (0, .ref mm), (1, .int (nI p))]) hx hb d_M_numberOf_3 rfl hl (by decide) rfl (fun ls hl => ?_)
  have loop4 : ∀ (fuel : Nat) (i : Nat) (k : Nat) (H : Heap) (locs : List Loc) (ls : Array Slot), lv_has ls 4 [(3, .int (nI i)), (2, .int (nI k)), (0, .ref mm), (1, .int (nI p))] → va_P (dC, dI) vwCl [(mm, .inr (8, [.int mp, .int co, .int (nI n), .ref p1, .ref p2, .ref p3, .ref p4, .ref p5, .int (nI un), .ref p6, .ref p7, .ref p8, .int cm, .ref p9, .ref p10, .ref p11, .int ope, .ref p12, .ref p13, .ref p14, .ref p15, .ref p16, .ref p17, .ref p18, .ref p19, .ref p20, .ref p21, .int (nI he), .ref p22])), (p1, .inl (cI, 64, .inl MS))] H → va_D zA [(mm, .inr (8, [.int mp, .int co, .int (nI n), .ref p1, .ref p2, .ref p3, .ref p4, .ref p5, .int (nI un), .ref p6, .ref p7, .ref p8, .int cm, .ref p9, .ref p10, .ref p11, .int ope, .ref p12, .ref p13, .ref p14, .ref p15, .ref p16, .ref p17, .ref p18, .ref p19, .ref p20, .ref p21, .int (nI he), .ref p22])), (p1, .inl (cI, 64, .inl MS))] → va_S zA zs.heap H locs → (i ≤ p) → (k = us_num st (st p) i) → p + 1 - i ≤ fuel → W zp zl ze ({ frames := 0, cells := 0, slots := 0, locals := 0 }) zs zm args below meth zc H locs 0 0 zQ (F0 zm 4 ls []) := by
    intro fuel
    induction fuel with
    | zero => intro i k H locs ls hl hP hD hS hi hk hm; exact absurd hm (by omega)
    | succ fuel ih =>
      intro i k H locs ls hl hP hD hS hi hk hm
      refine lv_iload_n hx hb d_M_numberOf_4 rfl (lv_at hl 0 rfl) ?_
      refine lv_iload_n hx hb d_M_numberOf_5 rfl (lv_at hl 3 rfl) ?_
      refine lv_icmp_ge (tgt := 38) hx hb d_M_numberOf_6 (by decide) (fun hc => ?_) (fun hc => ?_)
      · have hin : i = p := by { have : ¬ i < p := fun z => absurd hc (nI_ge z (by omega)); omega }
        rw [hin] at hk
        subst hk
        refine lv_iload_n hx hb d_M_numberOf_38 rfl (lv_at hl 1 rfl) ?_
        exact us_iret hQ (by decide) (by decide) hx hb hr hlk hK hS () rfl (trivial) hP hD d_M_numberOf_39
      · have hin2 : i < p := by rcases Nat.lt_or_ge i p with z | z; exact z; exact absurd (nI_le z (by omega)) hc
        obtain ⟨s1, s2⟩ := hSt i (by omega)
        obtain ⟨s3, s4⟩ := hSt p hp
        refine lv_aload_n hx hb d_M_numberOf_9 rfl (lv_at hl 2 rfl) ?_
        refine va_get (D := (dC, dI)) (ci := 8) (v := .ref p1) (C := "UpcastStreamsModel") (T := F_M) (N := 29) hx hb hts in_M hown hK hP 0 rfl rfl 3 (by decide) (hts _ uw_3_134) (fun _ h9 => h9) rfl d_M_numberOf_10 ?_
        refine lv_iload_n hx hb d_M_numberOf_13 rfl (lv_at hl 0 rfl) ?_
        refine us_iald (j := i) hx hb hK hP 1 0 rfl rfl (vp_in_nI (by omega) (by omega)) (nI_clamp (by omega)) d_M_numberOf_14 ?_
        refine us_top (show (MS i) = (nI (st i)) from s1) ?_
        refine lv_aload_n hx hb d_M_numberOf_15 rfl (lv_at hl 2 rfl) ?_
        refine va_get (D := (dC, dI)) (ci := 8) (v := .ref p1) (C := "UpcastStreamsModel") (T := F_M) (N := 29) hx hb hts in_M hown hK hP 0 rfl rfl 3 (by decide) (hts _ uw_3_134) (fun _ h9 => h9) rfl d_M_numberOf_16 ?_
        refine lv_iload_n hx hb d_M_numberOf_19 rfl (lv_at hl 3 rfl) ?_
        refine us_iald (j := p) hx hb hK hP 1 0 rfl rfl (vp_in_nI (by omega) (by omega)) (nI_clamp (by omega)) d_M_numberOf_20 ?_
        refine us_top (show (MS p) = (nI (st p)) from s3) ?_
        refine lv_icmp_ne (tgt := 30) hx hb d_M_numberOf_21 (by decide) (fun c21 => ?_) (fun c21 => ?_)
        · refine lv_iload_n hx hb d_M_numberOf_30 rfl (lv_at hl 1 rfl) ?_
          refine lv_istore_n (lv' := [(2, .int (nI k)), (3, .int (nI i)), (0, .ref mm), (1, .int (nI p))]) hx hb d_M_numberOf_31 rfl hl (by decide) rfl (fun ls hl => ?_)
          refine lv_iinc (k := 1) (v := nI (i + 1)) (lv' := [(3, .int (nI (i + 1))), (2, .int (nI k)), (0, .ref mm), (1, .int (nI p))]) hx hb d_M_numberOf_32 hl rfl (us_inc _) (by decide) rfl (fun ls hl => ?_)
          refine lv_goto (tgt := 4) hx hb d_M_numberOf_35 (by decide) ?_
          exact ih (i + 1) k H locs ls (lv_sub hl [0, 1, 2, 3] rfl) hP hD hS (by omega) (by rw [us_num_s, if_neg (fun z => c21 (by rw [z])), hk]; rfl) (by omega)
        · refine lv_iload_n hx hb d_M_numberOf_24 rfl (lv_at hl 1 rfl) ?_
          refine lv_iconst (v := (1 : Int32)) hx hb d_M_numberOf_25 (by decide) ?_
          refine lv_iadd hx hb d_M_numberOf_26 ?_
          refine us_top (show ((nI k) + (1 : Int32)) = (nI (k + 1)) from nI_1 k) ?_
          refine lv_goto (tgt := 31) hx hb d_M_numberOf_27 (by decide) ?_
          refine lv_istore_n (lv' := [(2, .int (nI (k + 1))), (3, .int (nI i)), (0, .ref mm), (1, .int (nI p))]) hx hb d_M_numberOf_31 rfl hl (by decide) rfl (fun ls hl => ?_)
          refine lv_iinc (k := 1) (v := nI (i + 1)) (lv' := [(3, .int (nI (i + 1))), (2, .int (nI (k + 1))), (0, .ref mm), (1, .int (nI p))]) hx hb d_M_numberOf_32 hl rfl (us_inc _) (by decide) rfl (fun ls hl => ?_)
          refine lv_goto (tgt := 4) hx hb d_M_numberOf_35 (by decide) ?_
          exact ih (i + 1) (k + 1) H locs ls (lv_sub hl [0, 1, 2, 3] rfl) hP hD hS (by omega) (by rw [us_num_s, if_pos ((nI_eq (by omega) (by omega)).mp c21), hk]) (by omega)
  exact loop4 _ 0 0 _ _ ls (lv_sub hl [0, 1, 2, 3] rfl) hP hD hS (by omega) rfl (Nat.le_refl _)

set_option maxHeartbeats 4000000 in
set_option maxRecDepth 100000 in
theorem m_fits (zl : Launch) (dC : Nat → ClassId) (dI : Nat → Nat → Nat) (cI cL cS cR : ClassId) (mm : Nat) (p1 : Nat) (p2 : Nat) (p3 : Nat) (p4 : Nat) (p5 : Nat) (p6 : Nat) (p7 : Nat) (p8 : Nat) (p9 : Nat) (p10 : Nat) (p11 : Nat) (p12 : Nat) (p13 : Nat) (p14 : Nat) (p15 : Nat) (p16 : Nat) (p17 : Nat) (p18 : Nat) (p19 : Nat) (p20 : Nat) (p21 : Nat) (p22 : Nat) (mp : Int32) (co : Int32) (cm : Int32) (ope : Int32) (n : Nat) (un : Nat) (he : Nat) (SA : Nat → Int64) (t : Nat) (a : Int32) (op : Bool) (fr : Bool) (li : Int64) (ba : Int64) (to : Int64) (mo : Int64) (od : Int64) (ch : Int64) (ht : t < 6) (hsx : us_sx SA (op, fr, li, ba, to, mo, od, ch)) : us_MetR (S := Int32) zl y_M_fits w_M_fits ({ frames := 0, cells := 0, slots := 0, locals := 0 }) (dC, dI) vwCl (us_ty cI cL cS cR) [.ref mm, .int (nI t), .int a] [(mm, .inr (8, [.int mp, .int co, .int (nI n), .ref p1, .ref p2, .ref p3, .ref p4, .ref p5, .int (nI un), .ref p6, .ref p7, .ref p8, .int cm, .ref p9, .ref p10, .ref p11, .int ope, .ref p12, .ref p13, .ref p14, .ref p15, .ref p16, .ref p17, .ref p18, .ref p19, .ref p20, .ref p21, .int (nI he), .ref p22])), (p16, .inl (cL, 8, .inr (.inl SA)))] (fun u => some (.int u)) (fun u => u = us_b (us_fits (op, fr, li, ba, to, mo, od, ch) t a)) := by
  refine us_ofR (cc := b_M_fits) (maxL := 4) (ret := (some .boolean)) (by decide) (Nat.le_of_ble_eq_true rfl) ?_
  intro zp ze zs zm args below meth zc zA ls zQ hQ hx hb hr hml hts hown hlk hl hK hP hS hA
  have hown : zs.vm.findClass "UpcastStreamsModel" = some zm.cls := hown
  have hl : lv_has ls 4 [(0, .ref mm), (1, .int (nI t)), (2, .int a)] := hl
  obtain ⟨H, hH⟩ : ∃ H, H = zs.heap := ⟨_, rfl⟩
  rw [← hH] at hP ⊢
  have hS : va_S zA zs.heap H [] := hH ▸ hS
  generalize ([] : List Loc) = locs at hS ⊢
  obtain ⟨s0, s1, s2, s3, s4, s5, s6, s7⟩ := hsx
  dsimp only at s0 s1 s2 s3 s4 s5 s6 s7
  rcases (show t = 0 ∨ t = 1 ∨ t = 2 ∨ t = 3 ∨ t = 4 ∨ t = 5 by omega) with rfl | rfl | rfl | rfl | rfl | rfl
  · refine lv_aload_n hx hb d_M_fits_0 rfl (lv_at hl 0 rfl) ?_
    refine va_get (D := (dC, dI)) (ci := 8) (v := .ref p16) (C := "UpcastStreamsModel") (T := F_M) (N := 29) hx hb hts in_M hown hK hP 0 rfl rfl 21 (by decide) (hts _ uw_3_152) (fun _ h9 => h9) rfl d_M_fits_1 ?_
    refine lv_iconst (v := (0 : Int32)) hx hb d_M_fits_4 (by decide) ?_
    refine us_lald (j := 0) hx hb hK hP 1 1 rfl rfl (by unfold vp_in; decide) (by decide) d_M_fits_5 ?_
    refine lv_lconst (v := (1 : Int64)) hx hb d_M_fits_6 (by decide) ?_
    refine W.lcmp hx hb d_M_fits_7 ?_
    refine lv_if_ne (tgt := 26) hx hb d_M_fits_8 (by decide) (fun c1 => ?_) (fun c1 => ?_)
    · refine lv_iconst (v := (0 : Int32)) hx hb d_M_fits_26 (by decide) ?_
      refine lv_istore_n (lv' := [(3, .int (0 : Int32)), (0, .ref mm), (1, .int (nI 0)), (2, .int a)]) hx hb d_M_fits_27 rfl hl (by decide) rfl (fun ls hl => ?_)
      refine lv_iload_n hx hb d_M_fits_28 rfl (lv_at hl 2 rfl) ?_
      refine lv_tableIn (off := (35 : Int)) (tgt := 64) hx hb d_M_fits_29 (by decide) (by decide) (by decide) (by decide) ?_
      refine lv_aload_n hx hb d_M_fits_64 rfl (lv_at hl 1 rfl) ?_
      refine va_get (D := (dC, dI)) (ci := 8) (v := .ref p16) (C := "UpcastStreamsModel") (T := F_M) (N := 29) hx hb hts in_M hown hK hP 0 rfl rfl 21 (by decide) (hts _ uw_3_152) (fun _ h9 => h9) rfl d_M_fits_65 ?_
      refine lv_iconst (v := (0 : Int32)) hx hb d_M_fits_68 (by decide) ?_
      refine us_lald (j := 0) hx hb hK hP 1 1 rfl rfl (by unfold vp_in; decide) (by decide) d_M_fits_69 ?_
      refine lv_lconst (v := (0 : Int64)) hx hb d_M_fits_70 (by decide) ?_
      refine W.lcmp hx hb d_M_fits_71 ?_
      refine lv_if_ne (tgt := 79) hx hb d_M_fits_72 (by decide) (fun c2 => ?_) (fun c2 => ?_)
      · refine lv_iconst (v := (0 : Int32)) hx hb d_M_fits_79 (by decide) ?_
        exact us_rzret hQ (by decide) (by decide) hx hb hr hlk hS (0 : Int32) (by decide) rfl (by cases op <;> cases fr <;> first | (simp_all [us_fits, us_b, us_bl, us_cmp_lt, us_cmp_eq, Int32.not_lt, Int64.not_lt]; done) | (simp_all [us_fits, us_b, us_bl, us_cmp_lt, us_cmp_eq, Int32.not_lt, Int64.not_lt]; intro hh; exact absurd hh (Int32.not_le.mpr ca))) d_M_fits_80
      · refine lv_iconst (v := (1 : Int32)) hx hb d_M_fits_75 (by decide) ?_
        refine lv_goto (tgt := 80) hx hb d_M_fits_76 (by decide) ?_
        exact us_rzret hQ (by decide) (by decide) hx hb hr hlk hS (1 : Int32) (by decide) rfl (by cases op <;> cases fr <;> first | (simp_all [us_fits, us_b, us_bl, us_cmp_lt, us_cmp_eq, Int32.not_lt, Int64.not_lt]; done) | (simp_all [us_fits, us_b, us_bl, us_cmp_lt, us_cmp_eq, Int32.not_lt, Int64.not_lt]; intro hh; exact absurd hh (Int32.not_le.mpr ca))) d_M_fits_80
    · refine lv_aload_n hx hb d_M_fits_11 rfl (lv_at hl 0 rfl) ?_
      refine va_get (D := (dC, dI)) (ci := 8) (v := .ref p16) (C := "UpcastStreamsModel") (T := F_M) (N := 29) hx hb hts in_M hown hK hP 0 rfl rfl 21 (by decide) (hts _ uw_3_152) (fun _ h9 => h9) rfl d_M_fits_12 ?_
      refine lv_iconst (v := (1 : Int32)) hx hb d_M_fits_15 (by decide) ?_
      refine us_lald (j := 1) hx hb hK hP 1 1 rfl rfl (by unfold vp_in; decide) (by decide) d_M_fits_16 ?_
      refine lv_lconst (v := (0 : Int64)) hx hb d_M_fits_17 (by decide) ?_
      refine W.lcmp hx hb d_M_fits_18 ?_
      refine lv_if_ne (tgt := 26) hx hb d_M_fits_19 (by decide) (fun c3 => ?_) (fun c3 => ?_)
      · refine lv_iconst (v := (0 : Int32)) hx hb d_M_fits_26 (by decide) ?_
        refine lv_istore_n (lv' := [(3, .int (0 : Int32)), (0, .ref mm), (1, .int (nI 0)), (2, .int a)]) hx hb d_M_fits_27 rfl hl (by decide) rfl (fun ls hl => ?_)
        refine lv_iload_n hx hb d_M_fits_28 rfl (lv_at hl 2 rfl) ?_
        refine lv_tableIn (off := (35 : Int)) (tgt := 64) hx hb d_M_fits_29 (by decide) (by decide) (by decide) (by decide) ?_
        refine lv_aload_n hx hb d_M_fits_64 rfl (lv_at hl 1 rfl) ?_
        refine va_get (D := (dC, dI)) (ci := 8) (v := .ref p16) (C := "UpcastStreamsModel") (T := F_M) (N := 29) hx hb hts in_M hown hK hP 0 rfl rfl 21 (by decide) (hts _ uw_3_152) (fun _ h9 => h9) rfl d_M_fits_65 ?_
        refine lv_iconst (v := (0 : Int32)) hx hb d_M_fits_68 (by decide) ?_
        refine us_lald (j := 0) hx hb hK hP 1 1 rfl rfl (by unfold vp_in; decide) (by decide) d_M_fits_69 ?_
        refine lv_lconst (v := (0 : Int64)) hx hb d_M_fits_70 (by decide) ?_
        refine W.lcmp hx hb d_M_fits_71 ?_
        refine lv_if_ne (tgt := 79) hx hb d_M_fits_72 (by decide) (fun c4 => ?_) (fun c4 => ?_)
        · refine lv_iconst (v := (0 : Int32)) hx hb d_M_fits_79 (by decide) ?_
          exact us_rzret hQ (by decide) (by decide) hx hb hr hlk hS (0 : Int32) (by decide) rfl (by cases op <;> cases fr <;> first | (simp_all [us_fits, us_b, us_bl, us_cmp_lt, us_cmp_eq, Int32.not_lt, Int64.not_lt]; done) | (simp_all [us_fits, us_b, us_bl, us_cmp_lt, us_cmp_eq, Int32.not_lt, Int64.not_lt]; intro hh; exact absurd hh (Int32.not_le.mpr ca))) d_M_fits_80
        · refine lv_iconst (v := (1 : Int32)) hx hb d_M_fits_75 (by decide) ?_
          refine lv_goto (tgt := 80) hx hb d_M_fits_76 (by decide) ?_
          exact us_rzret hQ (by decide) (by decide) hx hb hr hlk hS (1 : Int32) (by decide) rfl (by cases op <;> cases fr <;> first | (simp_all [us_fits, us_b, us_bl, us_cmp_lt, us_cmp_eq, Int32.not_lt, Int64.not_lt]; done) | (simp_all [us_fits, us_b, us_bl, us_cmp_lt, us_cmp_eq, Int32.not_lt, Int64.not_lt]; intro hh; exact absurd hh (Int32.not_le.mpr ca))) d_M_fits_80
      · refine lv_iconst (v := (1 : Int32)) hx hb d_M_fits_22 (by decide) ?_
        refine lv_goto (tgt := 27) hx hb d_M_fits_23 (by decide) ?_
        refine lv_istore_n (lv' := [(3, .int (1 : Int32)), (0, .ref mm), (1, .int (nI 0)), (2, .int a)]) hx hb d_M_fits_27 rfl hl (by decide) rfl (fun ls hl => ?_)
        refine lv_iload_n hx hb d_M_fits_28 rfl (lv_at hl 2 rfl) ?_
        refine lv_tableIn (off := (35 : Int)) (tgt := 64) hx hb d_M_fits_29 (by decide) (by decide) (by decide) (by decide) ?_
        refine lv_aload_n hx hb d_M_fits_64 rfl (lv_at hl 1 rfl) ?_
        refine va_get (D := (dC, dI)) (ci := 8) (v := .ref p16) (C := "UpcastStreamsModel") (T := F_M) (N := 29) hx hb hts in_M hown hK hP 0 rfl rfl 21 (by decide) (hts _ uw_3_152) (fun _ h9 => h9) rfl d_M_fits_65 ?_
        refine lv_iconst (v := (0 : Int32)) hx hb d_M_fits_68 (by decide) ?_
        refine us_lald (j := 0) hx hb hK hP 1 1 rfl rfl (by unfold vp_in; decide) (by decide) d_M_fits_69 ?_
        refine lv_lconst (v := (0 : Int64)) hx hb d_M_fits_70 (by decide) ?_
        refine W.lcmp hx hb d_M_fits_71 ?_
        refine lv_if_ne (tgt := 79) hx hb d_M_fits_72 (by decide) (fun c5 => ?_) (fun c5 => ?_)
        · refine lv_iconst (v := (0 : Int32)) hx hb d_M_fits_79 (by decide) ?_
          exact us_rzret hQ (by decide) (by decide) hx hb hr hlk hS (0 : Int32) (by decide) rfl (by cases op <;> cases fr <;> first | (simp_all [us_fits, us_b, us_bl, us_cmp_lt, us_cmp_eq, Int32.not_lt, Int64.not_lt]; done) | (simp_all [us_fits, us_b, us_bl, us_cmp_lt, us_cmp_eq, Int32.not_lt, Int64.not_lt]; intro hh; exact absurd hh (Int32.not_le.mpr ca))) d_M_fits_80
        · refine lv_iconst (v := (1 : Int32)) hx hb d_M_fits_75 (by decide) ?_
          refine lv_goto (tgt := 80) hx hb d_M_fits_76 (by decide) ?_
          exact us_rzret hQ (by decide) (by decide) hx hb hr hlk hS (1 : Int32) (by decide) rfl (by cases op <;> cases fr <;> first | (simp_all [us_fits, us_b, us_bl, us_cmp_lt, us_cmp_eq, Int32.not_lt, Int64.not_lt]; done) | (simp_all [us_fits, us_b, us_bl, us_cmp_lt, us_cmp_eq, Int32.not_lt, Int64.not_lt]; intro hh; exact absurd hh (Int32.not_le.mpr ca))) d_M_fits_80
  · refine lv_aload_n hx hb d_M_fits_0 rfl (lv_at hl 0 rfl) ?_
    refine va_get (D := (dC, dI)) (ci := 8) (v := .ref p16) (C := "UpcastStreamsModel") (T := F_M) (N := 29) hx hb hts in_M hown hK hP 0 rfl rfl 21 (by decide) (hts _ uw_3_152) (fun _ h9 => h9) rfl d_M_fits_1 ?_
    refine lv_iconst (v := (0 : Int32)) hx hb d_M_fits_4 (by decide) ?_
    refine us_lald (j := 0) hx hb hK hP 1 1 rfl rfl (by unfold vp_in; decide) (by decide) d_M_fits_5 ?_
    refine lv_lconst (v := (1 : Int64)) hx hb d_M_fits_6 (by decide) ?_
    refine W.lcmp hx hb d_M_fits_7 ?_
    refine lv_if_ne (tgt := 26) hx hb d_M_fits_8 (by decide) (fun c6 => ?_) (fun c6 => ?_)
    · refine lv_iconst (v := (0 : Int32)) hx hb d_M_fits_26 (by decide) ?_
      refine lv_istore_n (lv' := [(3, .int (0 : Int32)), (0, .ref mm), (1, .int (nI 1)), (2, .int a)]) hx hb d_M_fits_27 rfl hl (by decide) rfl (fun ls hl => ?_)
      refine lv_iload_n hx hb d_M_fits_28 rfl (lv_at hl 2 rfl) ?_
      refine lv_tableIn (off := (52 : Int)) (tgt := 81) hx hb d_M_fits_29 (by decide) (by decide) (by decide) (by decide) ?_
      refine lv_iload_n hx hb d_M_fits_81 rfl (lv_at hl 0 rfl) ?_
      refine lv_if_eq (tgt := 93) hx hb d_M_fits_82 (by decide) (fun c7 => ?_) (fun h => absurd h (by decide))
      refine lv_iconst (v := (0 : Int32)) hx hb d_M_fits_93 (by decide) ?_
      exact us_rzret hQ (by decide) (by decide) hx hb hr hlk hS (0 : Int32) (by decide) rfl (by cases op <;> cases fr <;> first | (simp_all [us_fits, us_b, us_bl, us_cmp_lt, us_cmp_eq, Int32.not_lt, Int64.not_lt]; done) | (simp_all [us_fits, us_b, us_bl, us_cmp_lt, us_cmp_eq, Int32.not_lt, Int64.not_lt]; intro hh; exact absurd hh (Int32.not_le.mpr ca))) d_M_fits_94
    · refine lv_aload_n hx hb d_M_fits_11 rfl (lv_at hl 0 rfl) ?_
      refine va_get (D := (dC, dI)) (ci := 8) (v := .ref p16) (C := "UpcastStreamsModel") (T := F_M) (N := 29) hx hb hts in_M hown hK hP 0 rfl rfl 21 (by decide) (hts _ uw_3_152) (fun _ h9 => h9) rfl d_M_fits_12 ?_
      refine lv_iconst (v := (1 : Int32)) hx hb d_M_fits_15 (by decide) ?_
      refine us_lald (j := 1) hx hb hK hP 1 1 rfl rfl (by unfold vp_in; decide) (by decide) d_M_fits_16 ?_
      refine lv_lconst (v := (0 : Int64)) hx hb d_M_fits_17 (by decide) ?_
      refine W.lcmp hx hb d_M_fits_18 ?_
      refine lv_if_ne (tgt := 26) hx hb d_M_fits_19 (by decide) (fun c8 => ?_) (fun c8 => ?_)
      · refine lv_iconst (v := (0 : Int32)) hx hb d_M_fits_26 (by decide) ?_
        refine lv_istore_n (lv' := [(3, .int (0 : Int32)), (0, .ref mm), (1, .int (nI 1)), (2, .int a)]) hx hb d_M_fits_27 rfl hl (by decide) rfl (fun ls hl => ?_)
        refine lv_iload_n hx hb d_M_fits_28 rfl (lv_at hl 2 rfl) ?_
        refine lv_tableIn (off := (52 : Int)) (tgt := 81) hx hb d_M_fits_29 (by decide) (by decide) (by decide) (by decide) ?_
        refine lv_iload_n hx hb d_M_fits_81 rfl (lv_at hl 0 rfl) ?_
        refine lv_if_eq (tgt := 93) hx hb d_M_fits_82 (by decide) (fun c9 => ?_) (fun h => absurd h (by decide))
        refine lv_iconst (v := (0 : Int32)) hx hb d_M_fits_93 (by decide) ?_
        exact us_rzret hQ (by decide) (by decide) hx hb hr hlk hS (0 : Int32) (by decide) rfl (by cases op <;> cases fr <;> first | (simp_all [us_fits, us_b, us_bl, us_cmp_lt, us_cmp_eq, Int32.not_lt, Int64.not_lt]; done) | (simp_all [us_fits, us_b, us_bl, us_cmp_lt, us_cmp_eq, Int32.not_lt, Int64.not_lt]; intro hh; exact absurd hh (Int32.not_le.mpr ca))) d_M_fits_94
      · refine lv_iconst (v := (1 : Int32)) hx hb d_M_fits_22 (by decide) ?_
        refine lv_goto (tgt := 27) hx hb d_M_fits_23 (by decide) ?_
        refine lv_istore_n (lv' := [(3, .int (1 : Int32)), (0, .ref mm), (1, .int (nI 1)), (2, .int a)]) hx hb d_M_fits_27 rfl hl (by decide) rfl (fun ls hl => ?_)
        refine lv_iload_n hx hb d_M_fits_28 rfl (lv_at hl 2 rfl) ?_
        refine lv_tableIn (off := (52 : Int)) (tgt := 81) hx hb d_M_fits_29 (by decide) (by decide) (by decide) (by decide) ?_
        refine lv_iload_n hx hb d_M_fits_81 rfl (lv_at hl 0 rfl) ?_
        refine lv_if_eq (tgt := 93) hx hb d_M_fits_82 (by decide) (fun h => absurd h (by decide)) (fun c10 => ?_)
        refine lv_iload_n hx hb d_M_fits_85 rfl (lv_at hl 3 rfl) ?_
        refine lv_if_lt (tgt := 93) hx hb d_M_fits_86 (by decide) (fun ca => ?_) (fun ca => ?_)
        · refine lv_iconst (v := (0 : Int32)) hx hb d_M_fits_93 (by decide) ?_
          exact us_rzret hQ (by decide) (by decide) hx hb hr hlk hS (0 : Int32) (by decide) rfl (by cases op <;> cases fr <;> first | (simp_all [us_fits, us_b, us_bl, us_cmp_lt, us_cmp_eq, Int32.not_lt, Int64.not_lt]; done) | (simp_all [us_fits, us_b, us_bl, us_cmp_lt, us_cmp_eq, Int32.not_lt, Int64.not_lt]; intro hh; exact absurd hh (Int32.not_le.mpr ca))) d_M_fits_94
        · refine lv_iconst (v := (1 : Int32)) hx hb d_M_fits_89 (by decide) ?_
          refine lv_goto (tgt := 94) hx hb d_M_fits_90 (by decide) ?_
          exact us_rzret hQ (by decide) (by decide) hx hb hr hlk hS (1 : Int32) (by decide) rfl (by cases op <;> cases fr <;> first | (simp_all [us_fits, us_b, us_bl, us_cmp_lt, us_cmp_eq, Int32.not_lt, Int64.not_lt]; done) | (simp_all [us_fits, us_b, us_bl, us_cmp_lt, us_cmp_eq, Int32.not_lt, Int64.not_lt]; intro hh; exact absurd hh (Int32.not_le.mpr ca))) d_M_fits_94
  · refine lv_aload_n hx hb d_M_fits_0 rfl (lv_at hl 0 rfl) ?_
    refine va_get (D := (dC, dI)) (ci := 8) (v := .ref p16) (C := "UpcastStreamsModel") (T := F_M) (N := 29) hx hb hts in_M hown hK hP 0 rfl rfl 21 (by decide) (hts _ uw_3_152) (fun _ h9 => h9) rfl d_M_fits_1 ?_
    refine lv_iconst (v := (0 : Int32)) hx hb d_M_fits_4 (by decide) ?_
    refine us_lald (j := 0) hx hb hK hP 1 1 rfl rfl (by unfold vp_in; decide) (by decide) d_M_fits_5 ?_
    refine lv_lconst (v := (1 : Int64)) hx hb d_M_fits_6 (by decide) ?_
    refine W.lcmp hx hb d_M_fits_7 ?_
    refine lv_if_ne (tgt := 26) hx hb d_M_fits_8 (by decide) (fun c12 => ?_) (fun c12 => ?_)
    · refine lv_iconst (v := (0 : Int32)) hx hb d_M_fits_26 (by decide) ?_
      refine lv_istore_n (lv' := [(3, .int (0 : Int32)), (0, .ref mm), (1, .int (nI 2)), (2, .int a)]) hx hb d_M_fits_27 rfl hl (by decide) rfl (fun ls hl => ?_)
      refine lv_iload_n hx hb d_M_fits_28 rfl (lv_at hl 2 rfl) ?_
      refine lv_tableIn (off := (66 : Int)) (tgt := 95) hx hb d_M_fits_29 (by decide) (by decide) (by decide) (by decide) ?_
      refine lv_iload_n hx hb d_M_fits_95 rfl (lv_at hl 0 rfl) ?_
      refine lv_if_eq (tgt := 126) hx hb d_M_fits_96 (by decide) (fun c13 => ?_) (fun h => absurd h (by decide))
      refine lv_iconst (v := (0 : Int32)) hx hb d_M_fits_126 (by decide) ?_
      exact us_rzret hQ (by decide) (by decide) hx hb hr hlk hS (0 : Int32) (by decide) rfl (by cases op <;> cases fr <;> first | (simp_all [us_fits, us_b, us_bl, us_cmp_lt, us_cmp_eq, Int32.not_lt, Int64.not_lt]; done) | (simp_all [us_fits, us_b, us_bl, us_cmp_lt, us_cmp_eq, Int32.not_lt, Int64.not_lt]; intro hh; exact absurd hh (Int32.not_le.mpr ca))) d_M_fits_127
    · refine lv_aload_n hx hb d_M_fits_11 rfl (lv_at hl 0 rfl) ?_
      refine va_get (D := (dC, dI)) (ci := 8) (v := .ref p16) (C := "UpcastStreamsModel") (T := F_M) (N := 29) hx hb hts in_M hown hK hP 0 rfl rfl 21 (by decide) (hts _ uw_3_152) (fun _ h9 => h9) rfl d_M_fits_12 ?_
      refine lv_iconst (v := (1 : Int32)) hx hb d_M_fits_15 (by decide) ?_
      refine us_lald (j := 1) hx hb hK hP 1 1 rfl rfl (by unfold vp_in; decide) (by decide) d_M_fits_16 ?_
      refine lv_lconst (v := (0 : Int64)) hx hb d_M_fits_17 (by decide) ?_
      refine W.lcmp hx hb d_M_fits_18 ?_
      refine lv_if_ne (tgt := 26) hx hb d_M_fits_19 (by decide) (fun c14 => ?_) (fun c14 => ?_)
      · refine lv_iconst (v := (0 : Int32)) hx hb d_M_fits_26 (by decide) ?_
        refine lv_istore_n (lv' := [(3, .int (0 : Int32)), (0, .ref mm), (1, .int (nI 2)), (2, .int a)]) hx hb d_M_fits_27 rfl hl (by decide) rfl (fun ls hl => ?_)
        refine lv_iload_n hx hb d_M_fits_28 rfl (lv_at hl 2 rfl) ?_
        refine lv_tableIn (off := (66 : Int)) (tgt := 95) hx hb d_M_fits_29 (by decide) (by decide) (by decide) (by decide) ?_
        refine lv_iload_n hx hb d_M_fits_95 rfl (lv_at hl 0 rfl) ?_
        refine lv_if_eq (tgt := 126) hx hb d_M_fits_96 (by decide) (fun c15 => ?_) (fun h => absurd h (by decide))
        refine lv_iconst (v := (0 : Int32)) hx hb d_M_fits_126 (by decide) ?_
        exact us_rzret hQ (by decide) (by decide) hx hb hr hlk hS (0 : Int32) (by decide) rfl (by cases op <;> cases fr <;> first | (simp_all [us_fits, us_b, us_bl, us_cmp_lt, us_cmp_eq, Int32.not_lt, Int64.not_lt]; done) | (simp_all [us_fits, us_b, us_bl, us_cmp_lt, us_cmp_eq, Int32.not_lt, Int64.not_lt]; intro hh; exact absurd hh (Int32.not_le.mpr ca))) d_M_fits_127
      · refine lv_iconst (v := (1 : Int32)) hx hb d_M_fits_22 (by decide) ?_
        refine lv_goto (tgt := 27) hx hb d_M_fits_23 (by decide) ?_
        refine lv_istore_n (lv' := [(3, .int (1 : Int32)), (0, .ref mm), (1, .int (nI 2)), (2, .int a)]) hx hb d_M_fits_27 rfl hl (by decide) rfl (fun ls hl => ?_)
        refine lv_iload_n hx hb d_M_fits_28 rfl (lv_at hl 2 rfl) ?_
        refine lv_tableIn (off := (66 : Int)) (tgt := 95) hx hb d_M_fits_29 (by decide) (by decide) (by decide) (by decide) ?_
        refine lv_iload_n hx hb d_M_fits_95 rfl (lv_at hl 0 rfl) ?_
        refine lv_if_eq (tgt := 126) hx hb d_M_fits_96 (by decide) (fun h => absurd h (by decide)) (fun c16 => ?_)
        refine lv_iload_n hx hb d_M_fits_99 rfl (lv_at hl 3 rfl) ?_
        refine lv_if_lt (tgt := 126) hx hb d_M_fits_100 (by decide) (fun ca => ?_) (fun ca => ?_)
        · refine lv_iconst (v := (0 : Int32)) hx hb d_M_fits_126 (by decide) ?_
          exact us_rzret hQ (by decide) (by decide) hx hb hr hlk hS (0 : Int32) (by decide) rfl (by cases op <;> cases fr <;> first | (simp_all [us_fits, us_b, us_bl, us_cmp_lt, us_cmp_eq, Int32.not_lt, Int64.not_lt]; done) | (simp_all [us_fits, us_b, us_bl, us_cmp_lt, us_cmp_eq, Int32.not_lt, Int64.not_lt]; intro hh; exact absurd hh (Int32.not_le.mpr ca))) d_M_fits_127
        · refine lv_aload_n hx hb d_M_fits_103 rfl (lv_at hl 1 rfl) ?_
          refine va_get (D := (dC, dI)) (ci := 8) (v := .ref p16) (C := "UpcastStreamsModel") (T := F_M) (N := 29) hx hb hts in_M hown hK hP 0 rfl rfl 21 (by decide) (hts _ uw_3_152) (fun _ h9 => h9) rfl d_M_fits_104 ?_
          refine lv_iconst (v := (3 : Int32)) hx hb d_M_fits_107 (by decide) ?_
          refine us_lald (j := 3) hx hb hK hP 1 1 rfl rfl (by unfold vp_in; decide) (by decide) d_M_fits_108 ?_
          refine lv_aload_n hx hb d_M_fits_109 rfl (lv_at hl 1 rfl) ?_
          refine va_get (D := (dC, dI)) (ci := 8) (v := .ref p16) (C := "UpcastStreamsModel") (T := F_M) (N := 29) hx hb hts in_M hown hK hP 0 rfl rfl 21 (by decide) (hts _ uw_3_152) (fun _ h9 => h9) rfl d_M_fits_110 ?_
          refine lv_iconst (v := (2 : Int32)) hx hb d_M_fits_113 (by decide) ?_
          refine us_lald (j := 2) hx hb hK hP 1 1 rfl rfl (by unfold vp_in; decide) (by decide) d_M_fits_114 ?_
          refine lv_ladd hx hb d_M_fits_115 ?_
          refine lv_iload_n hx hb d_M_fits_116 rfl (lv_at hl 3 rfl) ?_
          refine lv_i2l (v := a.toInt64) hx hb d_M_fits_117 rfl ?_
          refine W.lcmp hx hb d_M_fits_118 ?_
          refine lv_if_lt (tgt := 126) hx hb d_M_fits_119 (by decide) (fun c18 => ?_) (fun c18 => ?_)
          · refine lv_iconst (v := (0 : Int32)) hx hb d_M_fits_126 (by decide) ?_
            exact us_rzret hQ (by decide) (by decide) hx hb hr hlk hS (0 : Int32) (by decide) rfl (by cases op <;> cases fr <;> first | (simp_all [us_fits, us_b, us_bl, us_cmp_lt, us_cmp_eq, Int32.not_lt, Int64.not_lt]; done) | (simp_all [us_fits, us_b, us_bl, us_cmp_lt, us_cmp_eq, Int32.not_lt, Int64.not_lt]; intro hh; exact absurd hh (Int32.not_le.mpr ca))) d_M_fits_127
          · refine lv_iconst (v := (1 : Int32)) hx hb d_M_fits_122 (by decide) ?_
            refine lv_goto (tgt := 127) hx hb d_M_fits_123 (by decide) ?_
            exact us_rzret hQ (by decide) (by decide) hx hb hr hlk hS (1 : Int32) (by decide) rfl (by cases op <;> cases fr <;> first | (simp_all [us_fits, us_b, us_bl, us_cmp_lt, us_cmp_eq, Int32.not_lt, Int64.not_lt]; done) | (simp_all [us_fits, us_b, us_bl, us_cmp_lt, us_cmp_eq, Int32.not_lt, Int64.not_lt]; intro hh; exact absurd hh (Int32.not_le.mpr ca))) d_M_fits_127
  · refine lv_aload_n hx hb d_M_fits_0 rfl (lv_at hl 0 rfl) ?_
    refine va_get (D := (dC, dI)) (ci := 8) (v := .ref p16) (C := "UpcastStreamsModel") (T := F_M) (N := 29) hx hb hts in_M hown hK hP 0 rfl rfl 21 (by decide) (hts _ uw_3_152) (fun _ h9 => h9) rfl d_M_fits_1 ?_
    refine lv_iconst (v := (0 : Int32)) hx hb d_M_fits_4 (by decide) ?_
    refine us_lald (j := 0) hx hb hK hP 1 1 rfl rfl (by unfold vp_in; decide) (by decide) d_M_fits_5 ?_
    refine lv_lconst (v := (1 : Int64)) hx hb d_M_fits_6 (by decide) ?_
    refine W.lcmp hx hb d_M_fits_7 ?_
    refine lv_if_ne (tgt := 26) hx hb d_M_fits_8 (by decide) (fun c19 => ?_) (fun c19 => ?_)
    · refine lv_iconst (v := (0 : Int32)) hx hb d_M_fits_26 (by decide) ?_
      refine lv_istore_n (lv' := [(3, .int (0 : Int32)), (0, .ref mm), (1, .int (nI 3)), (2, .int a)]) hx hb d_M_fits_27 rfl hl (by decide) rfl (fun ls hl => ?_)
      refine lv_iload_n hx hb d_M_fits_28 rfl (lv_at hl 2 rfl) ?_
      refine lv_tableIn (off := (99 : Int)) (tgt := 128) hx hb d_M_fits_29 (by decide) (by decide) (by decide) (by decide) ?_
      refine lv_iload_n hx hb d_M_fits_128 rfl (lv_at hl 0 rfl) ?_
      exact us_rzret hQ (by decide) (by decide) hx hb hr hlk hS (0 : Int32) (by decide) rfl (by cases op <;> cases fr <;> first | (simp_all [us_fits, us_b, us_bl, us_cmp_lt, us_cmp_eq, Int32.not_lt, Int64.not_lt]; done) | (simp_all [us_fits, us_b, us_bl, us_cmp_lt, us_cmp_eq, Int32.not_lt, Int64.not_lt]; intro hh; exact absurd hh (Int32.not_le.mpr ca))) d_M_fits_129
    · refine lv_aload_n hx hb d_M_fits_11 rfl (lv_at hl 0 rfl) ?_
      refine va_get (D := (dC, dI)) (ci := 8) (v := .ref p16) (C := "UpcastStreamsModel") (T := F_M) (N := 29) hx hb hts in_M hown hK hP 0 rfl rfl 21 (by decide) (hts _ uw_3_152) (fun _ h9 => h9) rfl d_M_fits_12 ?_
      refine lv_iconst (v := (1 : Int32)) hx hb d_M_fits_15 (by decide) ?_
      refine us_lald (j := 1) hx hb hK hP 1 1 rfl rfl (by unfold vp_in; decide) (by decide) d_M_fits_16 ?_
      refine lv_lconst (v := (0 : Int64)) hx hb d_M_fits_17 (by decide) ?_
      refine W.lcmp hx hb d_M_fits_18 ?_
      refine lv_if_ne (tgt := 26) hx hb d_M_fits_19 (by decide) (fun c20 => ?_) (fun c20 => ?_)
      · refine lv_iconst (v := (0 : Int32)) hx hb d_M_fits_26 (by decide) ?_
        refine lv_istore_n (lv' := [(3, .int (0 : Int32)), (0, .ref mm), (1, .int (nI 3)), (2, .int a)]) hx hb d_M_fits_27 rfl hl (by decide) rfl (fun ls hl => ?_)
        refine lv_iload_n hx hb d_M_fits_28 rfl (lv_at hl 2 rfl) ?_
        refine lv_tableIn (off := (99 : Int)) (tgt := 128) hx hb d_M_fits_29 (by decide) (by decide) (by decide) (by decide) ?_
        refine lv_iload_n hx hb d_M_fits_128 rfl (lv_at hl 0 rfl) ?_
        exact us_rzret hQ (by decide) (by decide) hx hb hr hlk hS (0 : Int32) (by decide) rfl (by cases op <;> cases fr <;> first | (simp_all [us_fits, us_b, us_bl, us_cmp_lt, us_cmp_eq, Int32.not_lt, Int64.not_lt]; done) | (simp_all [us_fits, us_b, us_bl, us_cmp_lt, us_cmp_eq, Int32.not_lt, Int64.not_lt]; intro hh; exact absurd hh (Int32.not_le.mpr ca))) d_M_fits_129
      · refine lv_iconst (v := (1 : Int32)) hx hb d_M_fits_22 (by decide) ?_
        refine lv_goto (tgt := 27) hx hb d_M_fits_23 (by decide) ?_
        refine lv_istore_n (lv' := [(3, .int (1 : Int32)), (0, .ref mm), (1, .int (nI 3)), (2, .int a)]) hx hb d_M_fits_27 rfl hl (by decide) rfl (fun ls hl => ?_)
        refine lv_iload_n hx hb d_M_fits_28 rfl (lv_at hl 2 rfl) ?_
        refine lv_tableIn (off := (99 : Int)) (tgt := 128) hx hb d_M_fits_29 (by decide) (by decide) (by decide) (by decide) ?_
        refine lv_iload_n hx hb d_M_fits_128 rfl (lv_at hl 0 rfl) ?_
        exact us_rzret hQ (by decide) (by decide) hx hb hr hlk hS (1 : Int32) (by decide) rfl (by cases op <;> cases fr <;> first | (simp_all [us_fits, us_b, us_bl, us_cmp_lt, us_cmp_eq, Int32.not_lt, Int64.not_lt]; done) | (simp_all [us_fits, us_b, us_bl, us_cmp_lt, us_cmp_eq, Int32.not_lt, Int64.not_lt]; intro hh; exact absurd hh (Int32.not_le.mpr ca))) d_M_fits_129
  · refine lv_aload_n hx hb d_M_fits_0 rfl (lv_at hl 0 rfl) ?_
    refine va_get (D := (dC, dI)) (ci := 8) (v := .ref p16) (C := "UpcastStreamsModel") (T := F_M) (N := 29) hx hb hts in_M hown hK hP 0 rfl rfl 21 (by decide) (hts _ uw_3_152) (fun _ h9 => h9) rfl d_M_fits_1 ?_
    refine lv_iconst (v := (0 : Int32)) hx hb d_M_fits_4 (by decide) ?_
    refine us_lald (j := 0) hx hb hK hP 1 1 rfl rfl (by unfold vp_in; decide) (by decide) d_M_fits_5 ?_
    refine lv_lconst (v := (1 : Int64)) hx hb d_M_fits_6 (by decide) ?_
    refine W.lcmp hx hb d_M_fits_7 ?_
    refine lv_if_ne (tgt := 26) hx hb d_M_fits_8 (by decide) (fun c21 => ?_) (fun c21 => ?_)
    · refine lv_iconst (v := (0 : Int32)) hx hb d_M_fits_26 (by decide) ?_
      refine lv_istore_n (lv' := [(3, .int (0 : Int32)), (0, .ref mm), (1, .int (nI 4)), (2, .int a)]) hx hb d_M_fits_27 rfl hl (by decide) rfl (fun ls hl => ?_)
      refine lv_iload_n hx hb d_M_fits_28 rfl (lv_at hl 2 rfl) ?_
      refine lv_tableIn (off := (101 : Int)) (tgt := 130) hx hb d_M_fits_29 (by decide) (by decide) (by decide) (by decide) ?_
      refine lv_aload_n hx hb d_M_fits_130 rfl (lv_at hl 1 rfl) ?_
      refine va_get (D := (dC, dI)) (ci := 8) (v := .ref p16) (C := "UpcastStreamsModel") (T := F_M) (N := 29) hx hb hts in_M hown hK hP 0 rfl rfl 21 (by decide) (hts _ uw_3_152) (fun _ h9 => h9) rfl d_M_fits_131 ?_
      refine lv_iconst (v := (1 : Int32)) hx hb d_M_fits_134 (by decide) ?_
      refine us_lald (j := 1) hx hb hK hP 1 1 rfl rfl (by unfold vp_in; decide) (by decide) d_M_fits_135 ?_
      refine lv_lconst (v := (1 : Int64)) hx hb d_M_fits_136 (by decide) ?_
      refine W.lcmp hx hb d_M_fits_137 ?_
      refine lv_if_ne (tgt := 145) hx hb d_M_fits_138 (by decide) (fun c22 => ?_) (fun c22 => ?_)
      · refine lv_iconst (v := (0 : Int32)) hx hb d_M_fits_145 (by decide) ?_
        exact us_rzret hQ (by decide) (by decide) hx hb hr hlk hS (0 : Int32) (by decide) rfl (by cases op <;> cases fr <;> first | (simp_all [us_fits, us_b, us_bl, us_cmp_lt, us_cmp_eq, Int32.not_lt, Int64.not_lt]; done) | (simp_all [us_fits, us_b, us_bl, us_cmp_lt, us_cmp_eq, Int32.not_lt, Int64.not_lt]; intro hh; exact absurd hh (Int32.not_le.mpr ca))) d_M_fits_146
      · refine lv_iconst (v := (1 : Int32)) hx hb d_M_fits_141 (by decide) ?_
        refine lv_goto (tgt := 146) hx hb d_M_fits_142 (by decide) ?_
        exact us_rzret hQ (by decide) (by decide) hx hb hr hlk hS (1 : Int32) (by decide) rfl (by cases op <;> cases fr <;> first | (simp_all [us_fits, us_b, us_bl, us_cmp_lt, us_cmp_eq, Int32.not_lt, Int64.not_lt]; done) | (simp_all [us_fits, us_b, us_bl, us_cmp_lt, us_cmp_eq, Int32.not_lt, Int64.not_lt]; intro hh; exact absurd hh (Int32.not_le.mpr ca))) d_M_fits_146
    · refine lv_aload_n hx hb d_M_fits_11 rfl (lv_at hl 0 rfl) ?_
      refine va_get (D := (dC, dI)) (ci := 8) (v := .ref p16) (C := "UpcastStreamsModel") (T := F_M) (N := 29) hx hb hts in_M hown hK hP 0 rfl rfl 21 (by decide) (hts _ uw_3_152) (fun _ h9 => h9) rfl d_M_fits_12 ?_
      refine lv_iconst (v := (1 : Int32)) hx hb d_M_fits_15 (by decide) ?_
      refine us_lald (j := 1) hx hb hK hP 1 1 rfl rfl (by unfold vp_in; decide) (by decide) d_M_fits_16 ?_
      refine lv_lconst (v := (0 : Int64)) hx hb d_M_fits_17 (by decide) ?_
      refine W.lcmp hx hb d_M_fits_18 ?_
      refine lv_if_ne (tgt := 26) hx hb d_M_fits_19 (by decide) (fun c23 => ?_) (fun c23 => ?_)
      · refine lv_iconst (v := (0 : Int32)) hx hb d_M_fits_26 (by decide) ?_
        refine lv_istore_n (lv' := [(3, .int (0 : Int32)), (0, .ref mm), (1, .int (nI 4)), (2, .int a)]) hx hb d_M_fits_27 rfl hl (by decide) rfl (fun ls hl => ?_)
        refine lv_iload_n hx hb d_M_fits_28 rfl (lv_at hl 2 rfl) ?_
        refine lv_tableIn (off := (101 : Int)) (tgt := 130) hx hb d_M_fits_29 (by decide) (by decide) (by decide) (by decide) ?_
        refine lv_aload_n hx hb d_M_fits_130 rfl (lv_at hl 1 rfl) ?_
        refine va_get (D := (dC, dI)) (ci := 8) (v := .ref p16) (C := "UpcastStreamsModel") (T := F_M) (N := 29) hx hb hts in_M hown hK hP 0 rfl rfl 21 (by decide) (hts _ uw_3_152) (fun _ h9 => h9) rfl d_M_fits_131 ?_
        refine lv_iconst (v := (1 : Int32)) hx hb d_M_fits_134 (by decide) ?_
        refine us_lald (j := 1) hx hb hK hP 1 1 rfl rfl (by unfold vp_in; decide) (by decide) d_M_fits_135 ?_
        refine lv_lconst (v := (1 : Int64)) hx hb d_M_fits_136 (by decide) ?_
        refine W.lcmp hx hb d_M_fits_137 ?_
        refine lv_if_ne (tgt := 145) hx hb d_M_fits_138 (by decide) (fun c24 => ?_) (fun c24 => ?_)
        · refine lv_iconst (v := (0 : Int32)) hx hb d_M_fits_145 (by decide) ?_
          exact us_rzret hQ (by decide) (by decide) hx hb hr hlk hS (0 : Int32) (by decide) rfl (by cases op <;> cases fr <;> first | (simp_all [us_fits, us_b, us_bl, us_cmp_lt, us_cmp_eq, Int32.not_lt, Int64.not_lt]; done) | (simp_all [us_fits, us_b, us_bl, us_cmp_lt, us_cmp_eq, Int32.not_lt, Int64.not_lt]; intro hh; exact absurd hh (Int32.not_le.mpr ca))) d_M_fits_146
        · refine lv_iconst (v := (1 : Int32)) hx hb d_M_fits_141 (by decide) ?_
          refine lv_goto (tgt := 146) hx hb d_M_fits_142 (by decide) ?_
          exact us_rzret hQ (by decide) (by decide) hx hb hr hlk hS (1 : Int32) (by decide) rfl (by cases op <;> cases fr <;> first | (simp_all [us_fits, us_b, us_bl, us_cmp_lt, us_cmp_eq, Int32.not_lt, Int64.not_lt]; done) | (simp_all [us_fits, us_b, us_bl, us_cmp_lt, us_cmp_eq, Int32.not_lt, Int64.not_lt]; intro hh; exact absurd hh (Int32.not_le.mpr ca))) d_M_fits_146
      · refine lv_iconst (v := (1 : Int32)) hx hb d_M_fits_22 (by decide) ?_
        refine lv_goto (tgt := 27) hx hb d_M_fits_23 (by decide) ?_
        refine lv_istore_n (lv' := [(3, .int (1 : Int32)), (0, .ref mm), (1, .int (nI 4)), (2, .int a)]) hx hb d_M_fits_27 rfl hl (by decide) rfl (fun ls hl => ?_)
        refine lv_iload_n hx hb d_M_fits_28 rfl (lv_at hl 2 rfl) ?_
        refine lv_tableIn (off := (101 : Int)) (tgt := 130) hx hb d_M_fits_29 (by decide) (by decide) (by decide) (by decide) ?_
        refine lv_aload_n hx hb d_M_fits_130 rfl (lv_at hl 1 rfl) ?_
        refine va_get (D := (dC, dI)) (ci := 8) (v := .ref p16) (C := "UpcastStreamsModel") (T := F_M) (N := 29) hx hb hts in_M hown hK hP 0 rfl rfl 21 (by decide) (hts _ uw_3_152) (fun _ h9 => h9) rfl d_M_fits_131 ?_
        refine lv_iconst (v := (1 : Int32)) hx hb d_M_fits_134 (by decide) ?_
        refine us_lald (j := 1) hx hb hK hP 1 1 rfl rfl (by unfold vp_in; decide) (by decide) d_M_fits_135 ?_
        refine lv_lconst (v := (1 : Int64)) hx hb d_M_fits_136 (by decide) ?_
        refine W.lcmp hx hb d_M_fits_137 ?_
        refine lv_if_ne (tgt := 145) hx hb d_M_fits_138 (by decide) (fun c25 => ?_) (fun c25 => ?_)
        · refine lv_iconst (v := (0 : Int32)) hx hb d_M_fits_145 (by decide) ?_
          exact us_rzret hQ (by decide) (by decide) hx hb hr hlk hS (0 : Int32) (by decide) rfl (by cases op <;> cases fr <;> first | (simp_all [us_fits, us_b, us_bl, us_cmp_lt, us_cmp_eq, Int32.not_lt, Int64.not_lt]; done) | (simp_all [us_fits, us_b, us_bl, us_cmp_lt, us_cmp_eq, Int32.not_lt, Int64.not_lt]; intro hh; exact absurd hh (Int32.not_le.mpr ca))) d_M_fits_146
        · refine lv_iconst (v := (1 : Int32)) hx hb d_M_fits_141 (by decide) ?_
          refine lv_goto (tgt := 146) hx hb d_M_fits_142 (by decide) ?_
          exact us_rzret hQ (by decide) (by decide) hx hb hr hlk hS (1 : Int32) (by decide) rfl (by cases op <;> cases fr <;> first | (simp_all [us_fits, us_b, us_bl, us_cmp_lt, us_cmp_eq, Int32.not_lt, Int64.not_lt]; done) | (simp_all [us_fits, us_b, us_bl, us_cmp_lt, us_cmp_eq, Int32.not_lt, Int64.not_lt]; intro hh; exact absurd hh (Int32.not_le.mpr ca))) d_M_fits_146
  · refine lv_aload_n hx hb d_M_fits_0 rfl (lv_at hl 0 rfl) ?_
    refine va_get (D := (dC, dI)) (ci := 8) (v := .ref p16) (C := "UpcastStreamsModel") (T := F_M) (N := 29) hx hb hts in_M hown hK hP 0 rfl rfl 21 (by decide) (hts _ uw_3_152) (fun _ h9 => h9) rfl d_M_fits_1 ?_
    refine lv_iconst (v := (0 : Int32)) hx hb d_M_fits_4 (by decide) ?_
    refine us_lald (j := 0) hx hb hK hP 1 1 rfl rfl (by unfold vp_in; decide) (by decide) d_M_fits_5 ?_
    refine lv_lconst (v := (1 : Int64)) hx hb d_M_fits_6 (by decide) ?_
    refine W.lcmp hx hb d_M_fits_7 ?_
    refine lv_if_ne (tgt := 26) hx hb d_M_fits_8 (by decide) (fun c26 => ?_) (fun c26 => ?_)
    · refine lv_iconst (v := (0 : Int32)) hx hb d_M_fits_26 (by decide) ?_
      refine lv_istore_n (lv' := [(3, .int (0 : Int32)), (0, .ref mm), (1, .int (nI 5)), (2, .int a)]) hx hb d_M_fits_27 rfl hl (by decide) rfl (fun ls hl => ?_)
      refine lv_iload_n hx hb d_M_fits_28 rfl (lv_at hl 2 rfl) ?_
      refine lv_tableOut (tgt := 147) hx hb d_M_fits_29 (by decide) (by decide) ?_
      refine lv_iload_n hx hb d_M_fits_147 rfl (lv_at hl 0 rfl) ?_
      refine lv_if_eq (tgt := 166) hx hb d_M_fits_148 (by decide) (fun c27 => ?_) (fun h => absurd h (by decide))
      refine lv_iconst (v := (0 : Int32)) hx hb d_M_fits_166 (by decide) ?_
      exact us_rzret hQ (by decide) (by decide) hx hb hr hlk hS (0 : Int32) (by decide) rfl (by cases op <;> cases fr <;> first | (simp_all [us_fits, us_b, us_bl, us_cmp_lt, us_cmp_eq, Int32.not_lt, Int64.not_lt]; done) | (simp_all [us_fits, us_b, us_bl, us_cmp_lt, us_cmp_eq, Int32.not_lt, Int64.not_lt]; intro hh; exact absurd hh (Int32.not_le.mpr ca))) d_M_fits_167
    · refine lv_aload_n hx hb d_M_fits_11 rfl (lv_at hl 0 rfl) ?_
      refine va_get (D := (dC, dI)) (ci := 8) (v := .ref p16) (C := "UpcastStreamsModel") (T := F_M) (N := 29) hx hb hts in_M hown hK hP 0 rfl rfl 21 (by decide) (hts _ uw_3_152) (fun _ h9 => h9) rfl d_M_fits_12 ?_
      refine lv_iconst (v := (1 : Int32)) hx hb d_M_fits_15 (by decide) ?_
      refine us_lald (j := 1) hx hb hK hP 1 1 rfl rfl (by unfold vp_in; decide) (by decide) d_M_fits_16 ?_
      refine lv_lconst (v := (0 : Int64)) hx hb d_M_fits_17 (by decide) ?_
      refine W.lcmp hx hb d_M_fits_18 ?_
      refine lv_if_ne (tgt := 26) hx hb d_M_fits_19 (by decide) (fun c28 => ?_) (fun c28 => ?_)
      · refine lv_iconst (v := (0 : Int32)) hx hb d_M_fits_26 (by decide) ?_
        refine lv_istore_n (lv' := [(3, .int (0 : Int32)), (0, .ref mm), (1, .int (nI 5)), (2, .int a)]) hx hb d_M_fits_27 rfl hl (by decide) rfl (fun ls hl => ?_)
        refine lv_iload_n hx hb d_M_fits_28 rfl (lv_at hl 2 rfl) ?_
        refine lv_tableOut (tgt := 147) hx hb d_M_fits_29 (by decide) (by decide) ?_
        refine lv_iload_n hx hb d_M_fits_147 rfl (lv_at hl 0 rfl) ?_
        refine lv_if_eq (tgt := 166) hx hb d_M_fits_148 (by decide) (fun c29 => ?_) (fun h => absurd h (by decide))
        refine lv_iconst (v := (0 : Int32)) hx hb d_M_fits_166 (by decide) ?_
        exact us_rzret hQ (by decide) (by decide) hx hb hr hlk hS (0 : Int32) (by decide) rfl (by cases op <;> cases fr <;> first | (simp_all [us_fits, us_b, us_bl, us_cmp_lt, us_cmp_eq, Int32.not_lt, Int64.not_lt]; done) | (simp_all [us_fits, us_b, us_bl, us_cmp_lt, us_cmp_eq, Int32.not_lt, Int64.not_lt]; intro hh; exact absurd hh (Int32.not_le.mpr ca))) d_M_fits_167
      · refine lv_iconst (v := (1 : Int32)) hx hb d_M_fits_22 (by decide) ?_
        refine lv_goto (tgt := 27) hx hb d_M_fits_23 (by decide) ?_
        refine lv_istore_n (lv' := [(3, .int (1 : Int32)), (0, .ref mm), (1, .int (nI 5)), (2, .int a)]) hx hb d_M_fits_27 rfl hl (by decide) rfl (fun ls hl => ?_)
        refine lv_iload_n hx hb d_M_fits_28 rfl (lv_at hl 2 rfl) ?_
        refine lv_tableOut (tgt := 147) hx hb d_M_fits_29 (by decide) (by decide) ?_
        refine lv_iload_n hx hb d_M_fits_147 rfl (lv_at hl 0 rfl) ?_
        refine lv_if_eq (tgt := 166) hx hb d_M_fits_148 (by decide) (fun h => absurd h (by decide)) (fun c30 => ?_)
        refine lv_aload_n hx hb d_M_fits_151 rfl (lv_at hl 1 rfl) ?_
        refine va_get (D := (dC, dI)) (ci := 8) (v := .ref p16) (C := "UpcastStreamsModel") (T := F_M) (N := 29) hx hb hts in_M hown hK hP 0 rfl rfl 21 (by decide) (hts _ uw_3_152) (fun _ h9 => h9) rfl d_M_fits_152 ?_
        refine lv_iconst (v := (3 : Int32)) hx hb d_M_fits_155 (by decide) ?_
        refine us_lald (j := 3) hx hb hK hP 1 1 rfl rfl (by unfold vp_in; decide) (by decide) d_M_fits_156 ?_
        refine lv_lconst (v := (0 : Int64)) hx hb d_M_fits_157 (by decide) ?_
        refine W.lcmp hx hb d_M_fits_158 ?_
        refine lv_if_ne (tgt := 166) hx hb d_M_fits_159 (by decide) (fun c31 => ?_) (fun c31 => ?_)
        · refine lv_iconst (v := (0 : Int32)) hx hb d_M_fits_166 (by decide) ?_
          exact us_rzret hQ (by decide) (by decide) hx hb hr hlk hS (0 : Int32) (by decide) rfl (by cases op <;> cases fr <;> first | (simp_all [us_fits, us_b, us_bl, us_cmp_lt, us_cmp_eq, Int32.not_lt, Int64.not_lt]; done) | (simp_all [us_fits, us_b, us_bl, us_cmp_lt, us_cmp_eq, Int32.not_lt, Int64.not_lt]; intro hh; exact absurd hh (Int32.not_le.mpr ca))) d_M_fits_167
        · refine lv_iconst (v := (1 : Int32)) hx hb d_M_fits_162 (by decide) ?_
          refine lv_goto (tgt := 167) hx hb d_M_fits_163 (by decide) ?_
          exact us_rzret hQ (by decide) (by decide) hx hb hr hlk hS (1 : Int32) (by decide) rfl (by cases op <;> cases fr <;> first | (simp_all [us_fits, us_b, us_bl, us_cmp_lt, us_cmp_eq, Int32.not_lt, Int64.not_lt]; done) | (simp_all [us_fits, us_b, us_bl, us_cmp_lt, us_cmp_eq, Int32.not_lt, Int64.not_lt]; intro hh; exact absurd hh (Int32.not_le.mpr ca))) d_M_fits_167

set_option maxHeartbeats 4000000 in
set_option maxRecDepth 100000 in
theorem m_change (zl : Launch) (dC : Nat → ClassId) (dI : Nat → Nat → Nat) (cI cL cS cR : ClassId) (mm : Nat) (p1 : Nat) (p2 : Nat) (p3 : Nat) (p4 : Nat) (p5 : Nat) (p6 : Nat) (p7 : Nat) (p8 : Nat) (p9 : Nat) (p10 : Nat) (p11 : Nat) (p12 : Nat) (p13 : Nat) (p14 : Nat) (p15 : Nat) (p16 : Nat) (p17 : Nat) (p18 : Nat) (p19 : Nat) (p20 : Nat) (p21 : Nat) (p22 : Nat) (mp : Int32) (co : Int32) (cm : Int32) (ope : Int32) (n : Nat) (un : Nat) (he : Nat) (SA : Nat → Int64) (t : Nat) (a : Int32) (b : Int32) (op : Bool) (fr : Bool) (li : Int64) (ba : Int64) (to : Int64) (mo : Int64) (od : Int64) (ch : Int64) (ht : t < 6) (hsx : us_sx SA (op, fr, li, ba, to, mo, od, ch)) : us_Met (S := (Nat → Int64)) zl y_M_change w_M_change ({ frames := 0, cells := 0, slots := 0, locals := 0 }) (dC, dI) vwCl (us_ty cI cL cS cR) [.ref mm, .int (nI t), .int a, .int b] [(mm, .inr (8, [.int mp, .int co, .int (nI n), .ref p1, .ref p2, .ref p3, .ref p4, .ref p5, .int (nI un), .ref p6, .ref p7, .ref p8, .int cm, .ref p9, .ref p10, .ref p11, .int ope, .ref p12, .ref p13, .ref p14, .ref p15, .ref p16, .ref p17, .ref p18, .ref p19, .ref p20, .ref p21, .int (nI he), .ref p22])), (p16, .inl (cL, 8, .inr (.inl SA)))] (fun _ => none) (fun u => us_sx u (us_cnt (us_chg (op, fr, li, ba, to, mo, od, ch) t a) t a b)) (fun u => [(mm, .inr (8, [.int mp, .int co, .int (nI n), .ref p1, .ref p2, .ref p3, .ref p4, .ref p5, .int (nI un), .ref p6, .ref p7, .ref p8, .int cm, .ref p9, .ref p10, .ref p11, .int ope, .ref p12, .ref p13, .ref p14, .ref p15, .ref p16, .ref p17, .ref p18, .ref p19, .ref p20, .ref p21, .int (nI he), .ref p22])), (p16, .inl (cL, 8, .inr (.inl u)))]) := by
  refine us_ofW (cc := b_M_change) (maxL := 6) (ret := none) (by decide) (Nat.le_of_ble_eq_true rfl) ?_
  intro zp ze zs zm args below meth zc zA ls zQ hQ hx hb hr hml hts hown hlk hin hl hK hP hD hS hA
  have hown : zs.vm.findClass "UpcastStreamsModel" = some zm.cls := hown
  have hl : lv_has ls 6 [(0, .ref mm), (1, .int (nI t)), (2, .int a), (3, .int b)] := hl
  obtain ⟨H, hH⟩ : ∃ H, H = zs.heap := ⟨_, rfl⟩
  rw [← hH] at hP ⊢
  have hS : va_S zA zs.heap H [] := hH ▸ hS
  generalize ([] : List Loc) = locs at hS ⊢
  obtain ⟨s0, s1, s2, s3, s4, s5, s6, s7⟩ := hsx
  dsimp only at s0 s1 s2 s3 s4 s5 s6 s7
  rcases (show t = 0 ∨ t = 1 ∨ t = 2 ∨ t = 3 ∨ t = 4 ∨ t = 5 by omega) with rfl | rfl | rfl | rfl | rfl | rfl
  · refine lv_aload_n hx hb d_M_change_0 rfl (lv_at hl 0 rfl) ?_
    refine va_get (D := (dC, dI)) (ci := 8) (v := .ref p16) (C := "UpcastStreamsModel") (T := F_M) (N := 29) hx hb hts in_M hown hK hP 0 rfl rfl 21 (by decide) (hts _ uw_3_152) (fun _ h9 => h9) rfl d_M_change_1 ?_
    refine lv_iconst (v := (3 : Int32)) hx hb d_M_change_4 (by decide) ?_
    refine us_lald (j := 3) hx hb hK hP 1 1 rfl rfl (by unfold vp_in; decide) (by decide) d_M_change_5 ?_
    refine us_topl (show (SA 3) = ba from s3) ?_
    refine lv_lstore (lv' := [(4, .long ba), (0, .ref mm), (1, .int (nI 0)), (2, .int a), (3, .int b)]) hx hb d_M_change_6 hl (by decide) rfl (fun ls hl => ?_)
    refine lv_aload_n hx hb d_M_change_8 rfl (lv_at hl 1 rfl) ?_
    refine va_get (D := (dC, dI)) (ci := 8) (v := .ref p16) (C := "UpcastStreamsModel") (T := F_M) (N := 29) hx hb hts in_M hown hK hP 0 rfl rfl 21 (by decide) (hts _ uw_3_152) (fun _ h9 => h9) rfl d_M_change_9 ?_
    refine lv_iconst (v := (2 : Int32)) hx hb d_M_change_12 (by decide) ?_
    refine lv_iload_n hx hb d_M_change_13 rfl (lv_at hl 2 rfl) ?_
    refine lv_if_ne (tgt := 22) hx hb d_M_change_14 (by decide) (fun h => absurd h (by decide)) (fun c1 => ?_)
    refine lv_iload_n hx hb d_M_change_17 rfl (lv_at hl 3 rfl) ?_
    refine lv_i2l (v := a.toInt64) hx hb d_M_change_18 rfl ?_
    refine lv_goto (tgt := 28) hx hb d_M_change_19 (by decide) ?_
    refine us_last (j := 2) hx hb hK hP hD hS 1 1 rfl rfl (by unfold vp_in; decide) (by decide) d_M_change_28 (fun H locs hP hD hS => ?_)
    have hP : va_P (dC, dI) vwCl [(mm, .inr (8, [.int mp, .int co, .int (nI n), .ref p1, .ref p2, .ref p3, .ref p4, .ref p5, .int (nI un), .ref p6, .ref p7, .ref p8, .int cm, .ref p9, .ref p10, .ref p11, .int ope, .ref p12, .ref p13, .ref p14, .ref p15, .ref p16, .ref p17, .ref p18, .ref p19, .ref p20, .ref p21, .int (nI he), .ref p22])), (p16, .inl (cL, 8, .inr (.inl (vp_updL SA 2 a.toInt64))))] H := hP
    have hD : va_D zA [(mm, .inr (8, [.int mp, .int co, .int (nI n), .ref p1, .ref p2, .ref p3, .ref p4, .ref p5, .int (nI un), .ref p6, .ref p7, .ref p8, .int cm, .ref p9, .ref p10, .ref p11, .int ope, .ref p12, .ref p13, .ref p14, .ref p15, .ref p16, .ref p17, .ref p18, .ref p19, .ref p20, .ref p21, .int (nI he), .ref p22])), (p16, .inl (cL, 8, .inr (.inl (vp_updL SA 2 a.toInt64))))] := hD
    refine lv_aload_n hx hb d_M_change_29 rfl (lv_at hl 1 rfl) ?_
    refine va_get (D := (dC, dI)) (ci := 8) (v := .ref p16) (C := "UpcastStreamsModel") (T := F_M) (N := 29) hx hb hts in_M hown hK hP 0 rfl rfl 21 (by decide) (hts _ uw_3_152) (fun _ h9 => h9) rfl d_M_change_30 ?_
    refine lv_iconst (v := (3 : Int32)) hx hb d_M_change_33 (by decide) ?_
    refine lv_iload_n hx hb d_M_change_34 rfl (lv_at hl 2 rfl) ?_
    refine lv_if_ne (tgt := 42) hx hb d_M_change_35 (by decide) (fun h => absurd h (by decide)) (fun c2 => ?_)
    refine lv_lconst (v := (0 : Int64)) hx hb d_M_change_38 (by decide) ?_
    refine lv_goto (tgt := 70) hx hb d_M_change_39 (by decide) ?_
    refine us_last (j := 3) hx hb hK hP hD hS 1 1 rfl rfl (by unfold vp_in; decide) (by decide) d_M_change_70 (fun H locs hP hD hS => ?_)
    have hP : va_P (dC, dI) vwCl [(mm, .inr (8, [.int mp, .int co, .int (nI n), .ref p1, .ref p2, .ref p3, .ref p4, .ref p5, .int (nI un), .ref p6, .ref p7, .ref p8, .int cm, .ref p9, .ref p10, .ref p11, .int ope, .ref p12, .ref p13, .ref p14, .ref p15, .ref p16, .ref p17, .ref p18, .ref p19, .ref p20, .ref p21, .int (nI he), .ref p22])), (p16, .inl (cL, 8, .inr (.inl (vp_updL (vp_updL SA 2 a.toInt64) 3 (0 : Int64)))))] H := hP
    have hD : va_D zA [(mm, .inr (8, [.int mp, .int co, .int (nI n), .ref p1, .ref p2, .ref p3, .ref p4, .ref p5, .int (nI un), .ref p6, .ref p7, .ref p8, .int cm, .ref p9, .ref p10, .ref p11, .int ope, .ref p12, .ref p13, .ref p14, .ref p15, .ref p16, .ref p17, .ref p18, .ref p19, .ref p20, .ref p21, .int (nI he), .ref p22])), (p16, .inl (cL, 8, .inr (.inl (vp_updL (vp_updL SA 2 a.toInt64) 3 (0 : Int64)))))] := hD
    refine lv_aload_n hx hb d_M_change_71 rfl (lv_at hl 1 rfl) ?_
    refine va_get (D := (dC, dI)) (ci := 8) (v := .ref p16) (C := "UpcastStreamsModel") (T := F_M) (N := 29) hx hb hts in_M hown hK hP 0 rfl rfl 21 (by decide) (hts _ uw_3_152) (fun _ h9 => h9) rfl d_M_change_72 ?_
    refine lv_iconst (v := (0 : Int32)) hx hb d_M_change_75 (by decide) ?_
    refine lv_iload_n hx hb d_M_change_76 rfl (lv_at hl 2 rfl) ?_
    refine lv_if_ne (tgt := 84) hx hb d_M_change_77 (by decide) (fun h => absurd h (by decide)) (fun c3 => ?_)
    refine lv_lconst (v := (1 : Int64)) hx hb d_M_change_80 (by decide) ?_
    refine lv_goto (tgt := 99) hx hb d_M_change_81 (by decide) ?_
    refine us_last (j := 0) hx hb hK hP hD hS 1 1 rfl rfl (by unfold vp_in; decide) (by decide) d_M_change_99 (fun H locs hP hD hS => ?_)
    have hP : va_P (dC, dI) vwCl [(mm, .inr (8, [.int mp, .int co, .int (nI n), .ref p1, .ref p2, .ref p3, .ref p4, .ref p5, .int (nI un), .ref p6, .ref p7, .ref p8, .int cm, .ref p9, .ref p10, .ref p11, .int ope, .ref p12, .ref p13, .ref p14, .ref p15, .ref p16, .ref p17, .ref p18, .ref p19, .ref p20, .ref p21, .int (nI he), .ref p22])), (p16, .inl (cL, 8, .inr (.inl (vp_updL (vp_updL (vp_updL SA 2 a.toInt64) 3 (0 : Int64)) 0 (1 : Int64)))))] H := hP
    have hD : va_D zA [(mm, .inr (8, [.int mp, .int co, .int (nI n), .ref p1, .ref p2, .ref p3, .ref p4, .ref p5, .int (nI un), .ref p6, .ref p7, .ref p8, .int cm, .ref p9, .ref p10, .ref p11, .int ope, .ref p12, .ref p13, .ref p14, .ref p15, .ref p16, .ref p17, .ref p18, .ref p19, .ref p20, .ref p21, .int (nI he), .ref p22])), (p16, .inl (cL, 8, .inr (.inl (vp_updL (vp_updL (vp_updL SA 2 a.toInt64) 3 (0 : Int64)) 0 (1 : Int64)))))] := hD
    refine lv_aload_n hx hb d_M_change_100 rfl (lv_at hl 1 rfl) ?_
    refine va_get (D := (dC, dI)) (ci := 8) (v := .ref p16) (C := "UpcastStreamsModel") (T := F_M) (N := 29) hx hb hts in_M hown hK hP 0 rfl rfl 21 (by decide) (hts _ uw_3_152) (fun _ h9 => h9) rfl d_M_change_101 ?_
    refine lv_iconst (v := (1 : Int32)) hx hb d_M_change_104 (by decide) ?_
    refine lv_iload_n hx hb d_M_change_105 rfl (lv_at hl 2 rfl) ?_
    refine lv_iconst (v := (3 : Int32)) hx hb d_M_change_106 (by decide) ?_
    refine lv_icmp_ne (tgt := 114) hx hb d_M_change_107 (by decide) (fun c4 => ?_) (fun h => absurd h (by decide))
    refine lv_iload_n hx hb d_M_change_114 rfl (lv_at hl 2 rfl) ?_
    refine lv_iconst (v := (4 : Int32)) hx hb d_M_change_115 (by decide) ?_
    refine lv_icmp_ne (tgt := 123) hx hb d_M_change_116 (by decide) (fun c5 => ?_) (fun h => absurd h (by decide))
    refine lv_aload_n hx hb d_M_change_123 rfl (lv_at hl 1 rfl) ?_
    refine va_get (D := (dC, dI)) (ci := 8) (v := .ref p16) (C := "UpcastStreamsModel") (T := F_M) (N := 29) hx hb hts in_M hown hK hP 0 rfl rfl 21 (by decide) (hts _ uw_3_152) (fun _ h9 => h9) rfl d_M_change_124 ?_
    refine lv_iconst (v := (1 : Int32)) hx hb d_M_change_127 (by decide) ?_
    refine us_lald (j := 1) hx hb hK hP 1 1 rfl rfl (by unfold vp_in; decide) (by decide) d_M_change_128 ?_
    refine us_last (j := 1) hx hb hK hP hD hS 1 1 rfl rfl (by unfold vp_in; decide) (by decide) d_M_change_129 (fun H locs hP hD hS => ?_)
    have hP : va_P (dC, dI) vwCl [(mm, .inr (8, [.int mp, .int co, .int (nI n), .ref p1, .ref p2, .ref p3, .ref p4, .ref p5, .int (nI un), .ref p6, .ref p7, .ref p8, .int cm, .ref p9, .ref p10, .ref p11, .int ope, .ref p12, .ref p13, .ref p14, .ref p15, .ref p16, .ref p17, .ref p18, .ref p19, .ref p20, .ref p21, .int (nI he), .ref p22])), (p16, .inl (cL, 8, .inr (.inl (vp_updL (vp_updL (vp_updL (vp_updL SA 2 a.toInt64) 3 (0 : Int64)) 0 (1 : Int64)) 1 ((vp_updL (vp_updL (vp_updL SA 2 a.toInt64) 3 (0 : Int64)) 0 (1 : Int64)) 1)))))] H := hP
    have hD : va_D zA [(mm, .inr (8, [.int mp, .int co, .int (nI n), .ref p1, .ref p2, .ref p3, .ref p4, .ref p5, .int (nI un), .ref p6, .ref p7, .ref p8, .int cm, .ref p9, .ref p10, .ref p11, .int ope, .ref p12, .ref p13, .ref p14, .ref p15, .ref p16, .ref p17, .ref p18, .ref p19, .ref p20, .ref p21, .int (nI he), .ref p22])), (p16, .inl (cL, 8, .inr (.inl (vp_updL (vp_updL (vp_updL (vp_updL SA 2 a.toInt64) 3 (0 : Int64)) 0 (1 : Int64)) 1 ((vp_updL (vp_updL (vp_updL SA 2 a.toInt64) 3 (0 : Int64)) 0 (1 : Int64)) 1)))))] := hD
    refine lv_aload_n hx hb d_M_change_130 rfl (lv_at hl 1 rfl) ?_
    refine va_get (D := (dC, dI)) (ci := 8) (v := .ref p16) (C := "UpcastStreamsModel") (T := F_M) (N := 29) hx hb hts in_M hown hK hP 0 rfl rfl 21 (by decide) (hts _ uw_3_152) (fun _ h9 => h9) rfl d_M_change_131 ?_
    refine lv_iconst (v := (4 : Int32)) hx hb d_M_change_134 (by decide) ?_
    refine lv_aload_n hx hb d_M_change_135 rfl (lv_at hl 1 rfl) ?_
    refine va_get (D := (dC, dI)) (ci := 8) (v := .ref p16) (C := "UpcastStreamsModel") (T := F_M) (N := 29) hx hb hts in_M hown hK hP 0 rfl rfl 21 (by decide) (hts _ uw_3_152) (fun _ h9 => h9) rfl d_M_change_136 ?_
    refine lv_iconst (v := (3 : Int32)) hx hb d_M_change_139 (by decide) ?_
    refine us_lald (j := 3) hx hb hK hP 1 1 rfl rfl (by unfold vp_in; decide) (by decide) d_M_change_140 ?_
    refine us_topl (show ((vp_updL (vp_updL (vp_updL (vp_updL SA 2 a.toInt64) 3 (0 : Int64)) 0 (1 : Int64)) 1 ((vp_updL (vp_updL (vp_updL SA 2 a.toInt64) 3 (0 : Int64)) 0 (1 : Int64)) 1)) 3) = 0 from by simp [vp_updL, s3]) ?_
    refine lv_aload_n hx hb d_M_change_141 rfl (lv_at hl 1 rfl) ?_
    refine va_get (D := (dC, dI)) (ci := 8) (v := .ref p16) (C := "UpcastStreamsModel") (T := F_M) (N := 29) hx hb hts in_M hown hK hP 0 rfl rfl 21 (by decide) (hts _ uw_3_152) (fun _ h9 => h9) rfl d_M_change_142 ?_
    refine lv_iconst (v := (4 : Int32)) hx hb d_M_change_145 (by decide) ?_
    refine us_lald (j := 4) hx hb hK hP 1 1 rfl rfl (by unfold vp_in; decide) (by decide) d_M_change_146 ?_
    refine us_topl (show ((vp_updL (vp_updL (vp_updL (vp_updL SA 2 a.toInt64) 3 (0 : Int64)) 0 (1 : Int64)) 1 ((vp_updL (vp_updL (vp_updL SA 2 a.toInt64) 3 (0 : Int64)) 0 (1 : Int64)) 1)) 4) = to from by simp [vp_updL, s4]) ?_
    refine W.lcmp hx hb d_M_change_147 ?_
    refine lv_if_le (tgt := 160) hx hb d_M_change_148 (by decide) (fun cx => ?_) (fun cx => ?_)
    · refine lv_aload_n hx hb d_M_change_160 rfl (lv_at hl 1 rfl) ?_
      refine va_get (D := (dC, dI)) (ci := 8) (v := .ref p16) (C := "UpcastStreamsModel") (T := F_M) (N := 29) hx hb hts in_M hown hK hP 0 rfl rfl 21 (by decide) (hts _ uw_3_152) (fun _ h9 => h9) rfl d_M_change_161 ?_
      refine lv_iconst (v := (4 : Int32)) hx hb d_M_change_164 (by decide) ?_
      refine us_lald (j := 4) hx hb hK hP 1 1 rfl rfl (by unfold vp_in; decide) (by decide) d_M_change_165 ?_
      refine us_topl (show ((vp_updL (vp_updL (vp_updL (vp_updL SA 2 a.toInt64) 3 (0 : Int64)) 0 (1 : Int64)) 1 ((vp_updL (vp_updL (vp_updL SA 2 a.toInt64) 3 (0 : Int64)) 0 (1 : Int64)) 1)) 4) = to from by simp [vp_updL, s4]) ?_
      refine us_last (j := 4) hx hb hK hP hD hS 1 1 rfl rfl (by unfold vp_in; decide) (by decide) d_M_change_166 (fun H locs hP hD hS => ?_)
      have hP : va_P (dC, dI) vwCl [(mm, .inr (8, [.int mp, .int co, .int (nI n), .ref p1, .ref p2, .ref p3, .ref p4, .ref p5, .int (nI un), .ref p6, .ref p7, .ref p8, .int cm, .ref p9, .ref p10, .ref p11, .int ope, .ref p12, .ref p13, .ref p14, .ref p15, .ref p16, .ref p17, .ref p18, .ref p19, .ref p20, .ref p21, .int (nI he), .ref p22])), (p16, .inl (cL, 8, .inr (.inl (vp_updL (vp_updL (vp_updL (vp_updL (vp_updL SA 2 a.toInt64) 3 (0 : Int64)) 0 (1 : Int64)) 1 ((vp_updL (vp_updL (vp_updL SA 2 a.toInt64) 3 (0 : Int64)) 0 (1 : Int64)) 1)) 4 to))))] H := hP
      have hD : va_D zA [(mm, .inr (8, [.int mp, .int co, .int (nI n), .ref p1, .ref p2, .ref p3, .ref p4, .ref p5, .int (nI un), .ref p6, .ref p7, .ref p8, .int cm, .ref p9, .ref p10, .ref p11, .int ope, .ref p12, .ref p13, .ref p14, .ref p15, .ref p16, .ref p17, .ref p18, .ref p19, .ref p20, .ref p21, .int (nI he), .ref p22])), (p16, .inl (cL, 8, .inr (.inl (vp_updL (vp_updL (vp_updL (vp_updL (vp_updL SA 2 a.toInt64) 3 (0 : Int64)) 0 (1 : Int64)) 1 ((vp_updL (vp_updL (vp_updL SA 2 a.toInt64) 3 (0 : Int64)) 0 (1 : Int64)) 1)) 4 to))))] := hD
      refine lv_aload_n hx hb d_M_change_167 rfl (lv_at hl 1 rfl) ?_
      refine va_get (D := (dC, dI)) (ci := 8) (v := .ref p16) (C := "UpcastStreamsModel") (T := F_M) (N := 29) hx hb hts in_M hown hK hP 0 rfl rfl 21 (by decide) (hts _ uw_3_152) (fun _ h9 => h9) rfl d_M_change_168 ?_
      refine lv_iconst (v := (5 : Int32)) hx hb d_M_change_171 (by decide) ?_
      refine lv_aload_n hx hb d_M_change_172 rfl (lv_at hl 1 rfl) ?_
      refine va_get (D := (dC, dI)) (ci := 8) (v := .ref p16) (C := "UpcastStreamsModel") (T := F_M) (N := 29) hx hb hts in_M hown hK hP 0 rfl rfl 21 (by decide) (hts _ uw_3_152) (fun _ h9 => h9) rfl d_M_change_173 ?_
      refine lv_iconst (v := (5 : Int32)) hx hb d_M_change_176 (by decide) ?_
      refine us_lald (j := 5) hx hb hK hP 1 1 rfl rfl (by unfold vp_in; decide) (by decide) d_M_change_177 ?_
      refine us_topl (show ((vp_updL (vp_updL (vp_updL (vp_updL (vp_updL SA 2 a.toInt64) 3 (0 : Int64)) 0 (1 : Int64)) 1 ((vp_updL (vp_updL (vp_updL SA 2 a.toInt64) 3 (0 : Int64)) 0 (1 : Int64)) 1)) 4 to) 5) = mo from by simp [vp_updL, s5]) ?_
      refine lv_lconst (v := (1 : Int64)) hx hb d_M_change_178 (by decide) ?_
      refine lv_ladd hx hb d_M_change_179 ?_
      refine us_last (j := 5) hx hb hK hP hD hS 1 1 rfl rfl (by unfold vp_in; decide) (by decide) d_M_change_180 (fun H locs hP hD hS => ?_)
      have hP : va_P (dC, dI) vwCl [(mm, .inr (8, [.int mp, .int co, .int (nI n), .ref p1, .ref p2, .ref p3, .ref p4, .ref p5, .int (nI un), .ref p6, .ref p7, .ref p8, .int cm, .ref p9, .ref p10, .ref p11, .int ope, .ref p12, .ref p13, .ref p14, .ref p15, .ref p16, .ref p17, .ref p18, .ref p19, .ref p20, .ref p21, .int (nI he), .ref p22])), (p16, .inl (cL, 8, .inr (.inl (vp_updL (vp_updL (vp_updL (vp_updL (vp_updL (vp_updL SA 2 a.toInt64) 3 (0 : Int64)) 0 (1 : Int64)) 1 ((vp_updL (vp_updL (vp_updL SA 2 a.toInt64) 3 (0 : Int64)) 0 (1 : Int64)) 1)) 4 to) 5 (mo + (1 : Int64))))))] H := hP
      have hD : va_D zA [(mm, .inr (8, [.int mp, .int co, .int (nI n), .ref p1, .ref p2, .ref p3, .ref p4, .ref p5, .int (nI un), .ref p6, .ref p7, .ref p8, .int cm, .ref p9, .ref p10, .ref p11, .int ope, .ref p12, .ref p13, .ref p14, .ref p15, .ref p16, .ref p17, .ref p18, .ref p19, .ref p20, .ref p21, .int (nI he), .ref p22])), (p16, .inl (cL, 8, .inr (.inl (vp_updL (vp_updL (vp_updL (vp_updL (vp_updL (vp_updL SA 2 a.toInt64) 3 (0 : Int64)) 0 (1 : Int64)) 1 ((vp_updL (vp_updL (vp_updL SA 2 a.toInt64) 3 (0 : Int64)) 0 (1 : Int64)) 1)) 4 to) 5 (mo + (1 : Int64))))))] := hD
      refine lv_aload_n hx hb d_M_change_181 rfl (lv_at hl 1 rfl) ?_
      refine va_get (D := (dC, dI)) (ci := 8) (v := .ref p16) (C := "UpcastStreamsModel") (T := F_M) (N := 29) hx hb hts in_M hown hK hP 0 rfl rfl 21 (by decide) (hts _ uw_3_152) (fun _ h9 => h9) rfl d_M_change_182 ?_
      refine lv_bipush (v := (7 : Int32)) hx hb d_M_change_185 (by decide) ?_
      refine lv_aload_n hx hb d_M_change_187 rfl (lv_at hl 1 rfl) ?_
      refine va_get (D := (dC, dI)) (ci := 8) (v := .ref p16) (C := "UpcastStreamsModel") (T := F_M) (N := 29) hx hb hts in_M hown hK hP 0 rfl rfl 21 (by decide) (hts _ uw_3_152) (fun _ h9 => h9) rfl d_M_change_188 ?_
      refine lv_bipush (v := (7 : Int32)) hx hb d_M_change_191 (by decide) ?_
      refine us_lald (j := 7) hx hb hK hP 1 1 rfl rfl (by unfold vp_in; decide) (by decide) d_M_change_193 ?_
      refine us_topl (show ((vp_updL (vp_updL (vp_updL (vp_updL (vp_updL (vp_updL SA 2 a.toInt64) 3 (0 : Int64)) 0 (1 : Int64)) 1 ((vp_updL (vp_updL (vp_updL SA 2 a.toInt64) 3 (0 : Int64)) 0 (1 : Int64)) 1)) 4 to) 5 (mo + (1 : Int64))) 7) = ch from by simp [vp_updL, s7]) ?_
      refine lv_ldc2 (v := (31 : Int64)) hx hb hown (hts _ uw_4_38) d_M_change_194 ?_
      refine lv_lmul hx hb d_M_change_197 ?_
      refine lv_iload_n hx hb d_M_change_198 rfl (lv_at hl 2 rfl) ?_
      refine lv_i2l (v := (nI 0).toInt64) hx hb d_M_change_199 rfl ?_
      refine lv_ladd hx hb d_M_change_200 ?_
      refine lv_ldc2 (v := (7 : Int64)) hx hb hown (hts _ uw_4_39) d_M_change_201 ?_
      refine lv_iload_n hx hb d_M_change_204 rfl (lv_at hl 3 rfl) ?_
      refine lv_i2l (v := a.toInt64) hx hb d_M_change_205 rfl ?_
      refine lv_lmul hx hb d_M_change_206 ?_
      refine lv_ladd hx hb d_M_change_207 ?_
      refine lv_iload_n hx hb d_M_change_208 rfl (lv_at hl 4 rfl) ?_
      refine lv_i2l (v := b.toInt64) hx hb d_M_change_209 rfl ?_
      refine lv_lxor hx hb d_M_change_210 ?_
      refine us_last (j := 7) hx hb hK hP hD hS 1 1 rfl rfl (by unfold vp_in; decide) (by decide) d_M_change_211 (fun H locs hP hD hS => ?_)
      have hP : va_P (dC, dI) vwCl [(mm, .inr (8, [.int mp, .int co, .int (nI n), .ref p1, .ref p2, .ref p3, .ref p4, .ref p5, .int (nI un), .ref p6, .ref p7, .ref p8, .int cm, .ref p9, .ref p10, .ref p11, .int ope, .ref p12, .ref p13, .ref p14, .ref p15, .ref p16, .ref p17, .ref p18, .ref p19, .ref p20, .ref p21, .int (nI he), .ref p22])), (p16, .inl (cL, 8, .inr (.inl (vp_updL (vp_updL (vp_updL (vp_updL (vp_updL (vp_updL (vp_updL SA 2 a.toInt64) 3 (0 : Int64)) 0 (1 : Int64)) 1 ((vp_updL (vp_updL (vp_updL SA 2 a.toInt64) 3 (0 : Int64)) 0 (1 : Int64)) 1)) 4 to) 5 (mo + (1 : Int64))) 7 ((((ch * (31 : Int64)) + ((nI 0).toInt64)) + ((7 : Int64) * a.toInt64)) ^^^ b.toInt64)))))] H := hP
      have hD : va_D zA [(mm, .inr (8, [.int mp, .int co, .int (nI n), .ref p1, .ref p2, .ref p3, .ref p4, .ref p5, .int (nI un), .ref p6, .ref p7, .ref p8, .int cm, .ref p9, .ref p10, .ref p11, .int ope, .ref p12, .ref p13, .ref p14, .ref p15, .ref p16, .ref p17, .ref p18, .ref p19, .ref p20, .ref p21, .int (nI he), .ref p22])), (p16, .inl (cL, 8, .inr (.inl (vp_updL (vp_updL (vp_updL (vp_updL (vp_updL (vp_updL (vp_updL SA 2 a.toInt64) 3 (0 : Int64)) 0 (1 : Int64)) 1 ((vp_updL (vp_updL (vp_updL SA 2 a.toInt64) 3 (0 : Int64)) 0 (1 : Int64)) 1)) 4 to) 5 (mo + (1 : Int64))) 7 ((((ch * (31 : Int64)) + ((nI 0).toInt64)) + ((7 : Int64) * a.toInt64)) ^^^ b.toInt64)))))] := hD
      exact us_vret hQ (by decide) (by decide) hx hb hr hlk hK hS (vp_updL (vp_updL (vp_updL (vp_updL (vp_updL (vp_updL (vp_updL SA 2 a.toInt64) 3 (0 : Int64)) 0 (1 : Int64)) 1 ((vp_updL (vp_updL (vp_updL SA 2 a.toInt64) 3 (0 : Int64)) 0 (1 : Int64)) 1)) 4 to) 5 (mo + (1 : Int64))) 7 ((((ch * (31 : Int64)) + ((nI 0).toInt64)) + ((7 : Int64) * a.toInt64)) ^^^ b.toInt64)) rfl (by first | (have cz := us_mx1 cx; refine ⟨?_, ?_, ?_, ?_, ?_, ?_, ?_, ?_⟩ <;> simp [us_chg, us_cnt, vp_updL, us_bl, s0, s1, s2, s3, s4, s5, s6, s7, cz]; done) | (have cz := us_mx2 cx; refine ⟨?_, ?_, ?_, ?_, ?_, ?_, ?_, ?_⟩ <;> simp [us_chg, us_cnt, vp_updL, us_bl, s0, s1, s2, s3, s4, s5, s6, s7, cz]; done)) hP hD d_M_change_212
    · refine lv_aload_n hx hb d_M_change_151 rfl (lv_at hl 1 rfl) ?_
      refine va_get (D := (dC, dI)) (ci := 8) (v := .ref p16) (C := "UpcastStreamsModel") (T := F_M) (N := 29) hx hb hts in_M hown hK hP 0 rfl rfl 21 (by decide) (hts _ uw_3_152) (fun _ h9 => h9) rfl d_M_change_152 ?_
      refine lv_iconst (v := (3 : Int32)) hx hb d_M_change_155 (by decide) ?_
      refine us_lald (j := 3) hx hb hK hP 1 1 rfl rfl (by unfold vp_in; decide) (by decide) d_M_change_156 ?_
      refine us_topl (show ((vp_updL (vp_updL (vp_updL (vp_updL SA 2 a.toInt64) 3 (0 : Int64)) 0 (1 : Int64)) 1 ((vp_updL (vp_updL (vp_updL SA 2 a.toInt64) 3 (0 : Int64)) 0 (1 : Int64)) 1)) 3) = 0 from by simp [vp_updL, s3]) ?_
      refine lv_goto (tgt := 166) hx hb d_M_change_157 (by decide) ?_
      refine us_last (j := 4) hx hb hK hP hD hS 1 1 rfl rfl (by unfold vp_in; decide) (by decide) d_M_change_166 (fun H locs hP hD hS => ?_)
      have hP : va_P (dC, dI) vwCl [(mm, .inr (8, [.int mp, .int co, .int (nI n), .ref p1, .ref p2, .ref p3, .ref p4, .ref p5, .int (nI un), .ref p6, .ref p7, .ref p8, .int cm, .ref p9, .ref p10, .ref p11, .int ope, .ref p12, .ref p13, .ref p14, .ref p15, .ref p16, .ref p17, .ref p18, .ref p19, .ref p20, .ref p21, .int (nI he), .ref p22])), (p16, .inl (cL, 8, .inr (.inl (vp_updL (vp_updL (vp_updL (vp_updL (vp_updL SA 2 a.toInt64) 3 (0 : Int64)) 0 (1 : Int64)) 1 ((vp_updL (vp_updL (vp_updL SA 2 a.toInt64) 3 (0 : Int64)) 0 (1 : Int64)) 1)) 4 0))))] H := hP
      have hD : va_D zA [(mm, .inr (8, [.int mp, .int co, .int (nI n), .ref p1, .ref p2, .ref p3, .ref p4, .ref p5, .int (nI un), .ref p6, .ref p7, .ref p8, .int cm, .ref p9, .ref p10, .ref p11, .int ope, .ref p12, .ref p13, .ref p14, .ref p15, .ref p16, .ref p17, .ref p18, .ref p19, .ref p20, .ref p21, .int (nI he), .ref p22])), (p16, .inl (cL, 8, .inr (.inl (vp_updL (vp_updL (vp_updL (vp_updL (vp_updL SA 2 a.toInt64) 3 (0 : Int64)) 0 (1 : Int64)) 1 ((vp_updL (vp_updL (vp_updL SA 2 a.toInt64) 3 (0 : Int64)) 0 (1 : Int64)) 1)) 4 0))))] := hD
      refine lv_aload_n hx hb d_M_change_167 rfl (lv_at hl 1 rfl) ?_
      refine va_get (D := (dC, dI)) (ci := 8) (v := .ref p16) (C := "UpcastStreamsModel") (T := F_M) (N := 29) hx hb hts in_M hown hK hP 0 rfl rfl 21 (by decide) (hts _ uw_3_152) (fun _ h9 => h9) rfl d_M_change_168 ?_
      refine lv_iconst (v := (5 : Int32)) hx hb d_M_change_171 (by decide) ?_
      refine lv_aload_n hx hb d_M_change_172 rfl (lv_at hl 1 rfl) ?_
      refine va_get (D := (dC, dI)) (ci := 8) (v := .ref p16) (C := "UpcastStreamsModel") (T := F_M) (N := 29) hx hb hts in_M hown hK hP 0 rfl rfl 21 (by decide) (hts _ uw_3_152) (fun _ h9 => h9) rfl d_M_change_173 ?_
      refine lv_iconst (v := (5 : Int32)) hx hb d_M_change_176 (by decide) ?_
      refine us_lald (j := 5) hx hb hK hP 1 1 rfl rfl (by unfold vp_in; decide) (by decide) d_M_change_177 ?_
      refine us_topl (show ((vp_updL (vp_updL (vp_updL (vp_updL (vp_updL SA 2 a.toInt64) 3 (0 : Int64)) 0 (1 : Int64)) 1 ((vp_updL (vp_updL (vp_updL SA 2 a.toInt64) 3 (0 : Int64)) 0 (1 : Int64)) 1)) 4 0) 5) = mo from by simp [vp_updL, s5]) ?_
      refine lv_lconst (v := (1 : Int64)) hx hb d_M_change_178 (by decide) ?_
      refine lv_ladd hx hb d_M_change_179 ?_
      refine us_last (j := 5) hx hb hK hP hD hS 1 1 rfl rfl (by unfold vp_in; decide) (by decide) d_M_change_180 (fun H locs hP hD hS => ?_)
      have hP : va_P (dC, dI) vwCl [(mm, .inr (8, [.int mp, .int co, .int (nI n), .ref p1, .ref p2, .ref p3, .ref p4, .ref p5, .int (nI un), .ref p6, .ref p7, .ref p8, .int cm, .ref p9, .ref p10, .ref p11, .int ope, .ref p12, .ref p13, .ref p14, .ref p15, .ref p16, .ref p17, .ref p18, .ref p19, .ref p20, .ref p21, .int (nI he), .ref p22])), (p16, .inl (cL, 8, .inr (.inl (vp_updL (vp_updL (vp_updL (vp_updL (vp_updL (vp_updL SA 2 a.toInt64) 3 (0 : Int64)) 0 (1 : Int64)) 1 ((vp_updL (vp_updL (vp_updL SA 2 a.toInt64) 3 (0 : Int64)) 0 (1 : Int64)) 1)) 4 0) 5 (mo + (1 : Int64))))))] H := hP
      have hD : va_D zA [(mm, .inr (8, [.int mp, .int co, .int (nI n), .ref p1, .ref p2, .ref p3, .ref p4, .ref p5, .int (nI un), .ref p6, .ref p7, .ref p8, .int cm, .ref p9, .ref p10, .ref p11, .int ope, .ref p12, .ref p13, .ref p14, .ref p15, .ref p16, .ref p17, .ref p18, .ref p19, .ref p20, .ref p21, .int (nI he), .ref p22])), (p16, .inl (cL, 8, .inr (.inl (vp_updL (vp_updL (vp_updL (vp_updL (vp_updL (vp_updL SA 2 a.toInt64) 3 (0 : Int64)) 0 (1 : Int64)) 1 ((vp_updL (vp_updL (vp_updL SA 2 a.toInt64) 3 (0 : Int64)) 0 (1 : Int64)) 1)) 4 0) 5 (mo + (1 : Int64))))))] := hD
      refine lv_aload_n hx hb d_M_change_181 rfl (lv_at hl 1 rfl) ?_
      refine va_get (D := (dC, dI)) (ci := 8) (v := .ref p16) (C := "UpcastStreamsModel") (T := F_M) (N := 29) hx hb hts in_M hown hK hP 0 rfl rfl 21 (by decide) (hts _ uw_3_152) (fun _ h9 => h9) rfl d_M_change_182 ?_
      refine lv_bipush (v := (7 : Int32)) hx hb d_M_change_185 (by decide) ?_
      refine lv_aload_n hx hb d_M_change_187 rfl (lv_at hl 1 rfl) ?_
      refine va_get (D := (dC, dI)) (ci := 8) (v := .ref p16) (C := "UpcastStreamsModel") (T := F_M) (N := 29) hx hb hts in_M hown hK hP 0 rfl rfl 21 (by decide) (hts _ uw_3_152) (fun _ h9 => h9) rfl d_M_change_188 ?_
      refine lv_bipush (v := (7 : Int32)) hx hb d_M_change_191 (by decide) ?_
      refine us_lald (j := 7) hx hb hK hP 1 1 rfl rfl (by unfold vp_in; decide) (by decide) d_M_change_193 ?_
      refine us_topl (show ((vp_updL (vp_updL (vp_updL (vp_updL (vp_updL (vp_updL SA 2 a.toInt64) 3 (0 : Int64)) 0 (1 : Int64)) 1 ((vp_updL (vp_updL (vp_updL SA 2 a.toInt64) 3 (0 : Int64)) 0 (1 : Int64)) 1)) 4 0) 5 (mo + (1 : Int64))) 7) = ch from by simp [vp_updL, s7]) ?_
      refine lv_ldc2 (v := (31 : Int64)) hx hb hown (hts _ uw_4_38) d_M_change_194 ?_
      refine lv_lmul hx hb d_M_change_197 ?_
      refine lv_iload_n hx hb d_M_change_198 rfl (lv_at hl 2 rfl) ?_
      refine lv_i2l (v := (nI 0).toInt64) hx hb d_M_change_199 rfl ?_
      refine lv_ladd hx hb d_M_change_200 ?_
      refine lv_ldc2 (v := (7 : Int64)) hx hb hown (hts _ uw_4_39) d_M_change_201 ?_
      refine lv_iload_n hx hb d_M_change_204 rfl (lv_at hl 3 rfl) ?_
      refine lv_i2l (v := a.toInt64) hx hb d_M_change_205 rfl ?_
      refine lv_lmul hx hb d_M_change_206 ?_
      refine lv_ladd hx hb d_M_change_207 ?_
      refine lv_iload_n hx hb d_M_change_208 rfl (lv_at hl 4 rfl) ?_
      refine lv_i2l (v := b.toInt64) hx hb d_M_change_209 rfl ?_
      refine lv_lxor hx hb d_M_change_210 ?_
      refine us_last (j := 7) hx hb hK hP hD hS 1 1 rfl rfl (by unfold vp_in; decide) (by decide) d_M_change_211 (fun H locs hP hD hS => ?_)
      have hP : va_P (dC, dI) vwCl [(mm, .inr (8, [.int mp, .int co, .int (nI n), .ref p1, .ref p2, .ref p3, .ref p4, .ref p5, .int (nI un), .ref p6, .ref p7, .ref p8, .int cm, .ref p9, .ref p10, .ref p11, .int ope, .ref p12, .ref p13, .ref p14, .ref p15, .ref p16, .ref p17, .ref p18, .ref p19, .ref p20, .ref p21, .int (nI he), .ref p22])), (p16, .inl (cL, 8, .inr (.inl (vp_updL (vp_updL (vp_updL (vp_updL (vp_updL (vp_updL (vp_updL SA 2 a.toInt64) 3 (0 : Int64)) 0 (1 : Int64)) 1 ((vp_updL (vp_updL (vp_updL SA 2 a.toInt64) 3 (0 : Int64)) 0 (1 : Int64)) 1)) 4 0) 5 (mo + (1 : Int64))) 7 ((((ch * (31 : Int64)) + ((nI 0).toInt64)) + ((7 : Int64) * a.toInt64)) ^^^ b.toInt64)))))] H := hP
      have hD : va_D zA [(mm, .inr (8, [.int mp, .int co, .int (nI n), .ref p1, .ref p2, .ref p3, .ref p4, .ref p5, .int (nI un), .ref p6, .ref p7, .ref p8, .int cm, .ref p9, .ref p10, .ref p11, .int ope, .ref p12, .ref p13, .ref p14, .ref p15, .ref p16, .ref p17, .ref p18, .ref p19, .ref p20, .ref p21, .int (nI he), .ref p22])), (p16, .inl (cL, 8, .inr (.inl (vp_updL (vp_updL (vp_updL (vp_updL (vp_updL (vp_updL (vp_updL SA 2 a.toInt64) 3 (0 : Int64)) 0 (1 : Int64)) 1 ((vp_updL (vp_updL (vp_updL SA 2 a.toInt64) 3 (0 : Int64)) 0 (1 : Int64)) 1)) 4 0) 5 (mo + (1 : Int64))) 7 ((((ch * (31 : Int64)) + ((nI 0).toInt64)) + ((7 : Int64) * a.toInt64)) ^^^ b.toInt64)))))] := hD
      exact us_vret hQ (by decide) (by decide) hx hb hr hlk hK hS (vp_updL (vp_updL (vp_updL (vp_updL (vp_updL (vp_updL (vp_updL SA 2 a.toInt64) 3 (0 : Int64)) 0 (1 : Int64)) 1 ((vp_updL (vp_updL (vp_updL SA 2 a.toInt64) 3 (0 : Int64)) 0 (1 : Int64)) 1)) 4 0) 5 (mo + (1 : Int64))) 7 ((((ch * (31 : Int64)) + ((nI 0).toInt64)) + ((7 : Int64) * a.toInt64)) ^^^ b.toInt64)) rfl (by first | (have cz := us_mx1 cx; refine ⟨?_, ?_, ?_, ?_, ?_, ?_, ?_, ?_⟩ <;> simp [us_chg, us_cnt, vp_updL, us_bl, s0, s1, s2, s3, s4, s5, s6, s7, cz]; done) | (have cz := us_mx2 cx; refine ⟨?_, ?_, ?_, ?_, ?_, ?_, ?_, ?_⟩ <;> simp [us_chg, us_cnt, vp_updL, us_bl, s0, s1, s2, s3, s4, s5, s6, s7, cz]; done)) hP hD d_M_change_212
  · refine lv_aload_n hx hb d_M_change_0 rfl (lv_at hl 0 rfl) ?_
    refine va_get (D := (dC, dI)) (ci := 8) (v := .ref p16) (C := "UpcastStreamsModel") (T := F_M) (N := 29) hx hb hts in_M hown hK hP 0 rfl rfl 21 (by decide) (hts _ uw_3_152) (fun _ h9 => h9) rfl d_M_change_1 ?_
    refine lv_iconst (v := (3 : Int32)) hx hb d_M_change_4 (by decide) ?_
    refine us_lald (j := 3) hx hb hK hP 1 1 rfl rfl (by unfold vp_in; decide) (by decide) d_M_change_5 ?_
    refine us_topl (show (SA 3) = ba from s3) ?_
    refine lv_lstore (lv' := [(4, .long ba), (0, .ref mm), (1, .int (nI 1)), (2, .int a), (3, .int b)]) hx hb d_M_change_6 hl (by decide) rfl (fun ls hl => ?_)
    refine lv_aload_n hx hb d_M_change_8 rfl (lv_at hl 1 rfl) ?_
    refine va_get (D := (dC, dI)) (ci := 8) (v := .ref p16) (C := "UpcastStreamsModel") (T := F_M) (N := 29) hx hb hts in_M hown hK hP 0 rfl rfl 21 (by decide) (hts _ uw_3_152) (fun _ h9 => h9) rfl d_M_change_9 ?_
    refine lv_iconst (v := (2 : Int32)) hx hb d_M_change_12 (by decide) ?_
    refine lv_iload_n hx hb d_M_change_13 rfl (lv_at hl 2 rfl) ?_
    refine lv_if_ne (tgt := 22) hx hb d_M_change_14 (by decide) (fun c7 => ?_) (fun h => absurd h (by decide))
    refine lv_aload_n hx hb d_M_change_22 rfl (lv_at hl 1 rfl) ?_
    refine va_get (D := (dC, dI)) (ci := 8) (v := .ref p16) (C := "UpcastStreamsModel") (T := F_M) (N := 29) hx hb hts in_M hown hK hP 0 rfl rfl 21 (by decide) (hts _ uw_3_152) (fun _ h9 => h9) rfl d_M_change_23 ?_
    refine lv_iconst (v := (2 : Int32)) hx hb d_M_change_26 (by decide) ?_
    refine us_lald (j := 2) hx hb hK hP 1 1 rfl rfl (by unfold vp_in; decide) (by decide) d_M_change_27 ?_
    refine us_last (j := 2) hx hb hK hP hD hS 1 1 rfl rfl (by unfold vp_in; decide) (by decide) d_M_change_28 (fun H locs hP hD hS => ?_)
    have hP : va_P (dC, dI) vwCl [(mm, .inr (8, [.int mp, .int co, .int (nI n), .ref p1, .ref p2, .ref p3, .ref p4, .ref p5, .int (nI un), .ref p6, .ref p7, .ref p8, .int cm, .ref p9, .ref p10, .ref p11, .int ope, .ref p12, .ref p13, .ref p14, .ref p15, .ref p16, .ref p17, .ref p18, .ref p19, .ref p20, .ref p21, .int (nI he), .ref p22])), (p16, .inl (cL, 8, .inr (.inl (vp_updL SA 2 (SA 2)))))] H := hP
    have hD : va_D zA [(mm, .inr (8, [.int mp, .int co, .int (nI n), .ref p1, .ref p2, .ref p3, .ref p4, .ref p5, .int (nI un), .ref p6, .ref p7, .ref p8, .int cm, .ref p9, .ref p10, .ref p11, .int ope, .ref p12, .ref p13, .ref p14, .ref p15, .ref p16, .ref p17, .ref p18, .ref p19, .ref p20, .ref p21, .int (nI he), .ref p22])), (p16, .inl (cL, 8, .inr (.inl (vp_updL SA 2 (SA 2)))))] := hD
    refine lv_aload_n hx hb d_M_change_29 rfl (lv_at hl 1 rfl) ?_
    refine va_get (D := (dC, dI)) (ci := 8) (v := .ref p16) (C := "UpcastStreamsModel") (T := F_M) (N := 29) hx hb hts in_M hown hK hP 0 rfl rfl 21 (by decide) (hts _ uw_3_152) (fun _ h9 => h9) rfl d_M_change_30 ?_
    refine lv_iconst (v := (3 : Int32)) hx hb d_M_change_33 (by decide) ?_
    refine lv_iload_n hx hb d_M_change_34 rfl (lv_at hl 2 rfl) ?_
    refine lv_if_ne (tgt := 42) hx hb d_M_change_35 (by decide) (fun c8 => ?_) (fun h => absurd h (by decide))
    refine lv_iload_n hx hb d_M_change_42 rfl (lv_at hl 2 rfl) ?_
    refine lv_iconst (v := (1 : Int32)) hx hb d_M_change_43 (by decide) ?_
    refine lv_icmp_ne (tgt := 55) hx hb d_M_change_44 (by decide) (fun h => absurd h (by decide)) (fun c9 => ?_)
    refine lv_lload hx hb d_M_change_47 (lv_at hl 0 rfl) ?_
    refine lv_iload_n hx hb d_M_change_49 rfl (lv_at hl 3 rfl) ?_
    refine lv_i2l (v := a.toInt64) hx hb d_M_change_50 rfl ?_
    refine lv_ladd hx hb d_M_change_51 ?_
    refine lv_goto (tgt := 70) hx hb d_M_change_52 (by decide) ?_
    refine us_last (j := 3) hx hb hK hP hD hS 1 1 rfl rfl (by unfold vp_in; decide) (by decide) d_M_change_70 (fun H locs hP hD hS => ?_)
    have hP : va_P (dC, dI) vwCl [(mm, .inr (8, [.int mp, .int co, .int (nI n), .ref p1, .ref p2, .ref p3, .ref p4, .ref p5, .int (nI un), .ref p6, .ref p7, .ref p8, .int cm, .ref p9, .ref p10, .ref p11, .int ope, .ref p12, .ref p13, .ref p14, .ref p15, .ref p16, .ref p17, .ref p18, .ref p19, .ref p20, .ref p21, .int (nI he), .ref p22])), (p16, .inl (cL, 8, .inr (.inl (vp_updL (vp_updL SA 2 (SA 2)) 3 (ba + a.toInt64)))))] H := hP
    have hD : va_D zA [(mm, .inr (8, [.int mp, .int co, .int (nI n), .ref p1, .ref p2, .ref p3, .ref p4, .ref p5, .int (nI un), .ref p6, .ref p7, .ref p8, .int cm, .ref p9, .ref p10, .ref p11, .int ope, .ref p12, .ref p13, .ref p14, .ref p15, .ref p16, .ref p17, .ref p18, .ref p19, .ref p20, .ref p21, .int (nI he), .ref p22])), (p16, .inl (cL, 8, .inr (.inl (vp_updL (vp_updL SA 2 (SA 2)) 3 (ba + a.toInt64)))))] := hD
    refine lv_aload_n hx hb d_M_change_71 rfl (lv_at hl 1 rfl) ?_
    refine va_get (D := (dC, dI)) (ci := 8) (v := .ref p16) (C := "UpcastStreamsModel") (T := F_M) (N := 29) hx hb hts in_M hown hK hP 0 rfl rfl 21 (by decide) (hts _ uw_3_152) (fun _ h9 => h9) rfl d_M_change_72 ?_
    refine lv_iconst (v := (0 : Int32)) hx hb d_M_change_75 (by decide) ?_
    refine lv_iload_n hx hb d_M_change_76 rfl (lv_at hl 2 rfl) ?_
    refine lv_if_ne (tgt := 84) hx hb d_M_change_77 (by decide) (fun c10 => ?_) (fun h => absurd h (by decide))
    refine lv_iload_n hx hb d_M_change_84 rfl (lv_at hl 2 rfl) ?_
    refine lv_iconst (v := (5 : Int32)) hx hb d_M_change_85 (by decide) ?_
    refine lv_icmp_ne (tgt := 93) hx hb d_M_change_86 (by decide) (fun c11 => ?_) (fun h => absurd h (by decide))
    refine lv_aload_n hx hb d_M_change_93 rfl (lv_at hl 1 rfl) ?_
    refine va_get (D := (dC, dI)) (ci := 8) (v := .ref p16) (C := "UpcastStreamsModel") (T := F_M) (N := 29) hx hb hts in_M hown hK hP 0 rfl rfl 21 (by decide) (hts _ uw_3_152) (fun _ h9 => h9) rfl d_M_change_94 ?_
    refine lv_iconst (v := (0 : Int32)) hx hb d_M_change_97 (by decide) ?_
    refine us_lald (j := 0) hx hb hK hP 1 1 rfl rfl (by unfold vp_in; decide) (by decide) d_M_change_98 ?_
    refine us_last (j := 0) hx hb hK hP hD hS 1 1 rfl rfl (by unfold vp_in; decide) (by decide) d_M_change_99 (fun H locs hP hD hS => ?_)
    have hP : va_P (dC, dI) vwCl [(mm, .inr (8, [.int mp, .int co, .int (nI n), .ref p1, .ref p2, .ref p3, .ref p4, .ref p5, .int (nI un), .ref p6, .ref p7, .ref p8, .int cm, .ref p9, .ref p10, .ref p11, .int ope, .ref p12, .ref p13, .ref p14, .ref p15, .ref p16, .ref p17, .ref p18, .ref p19, .ref p20, .ref p21, .int (nI he), .ref p22])), (p16, .inl (cL, 8, .inr (.inl (vp_updL (vp_updL (vp_updL SA 2 (SA 2)) 3 (ba + a.toInt64)) 0 ((vp_updL (vp_updL SA 2 (SA 2)) 3 (ba + a.toInt64)) 0)))))] H := hP
    have hD : va_D zA [(mm, .inr (8, [.int mp, .int co, .int (nI n), .ref p1, .ref p2, .ref p3, .ref p4, .ref p5, .int (nI un), .ref p6, .ref p7, .ref p8, .int cm, .ref p9, .ref p10, .ref p11, .int ope, .ref p12, .ref p13, .ref p14, .ref p15, .ref p16, .ref p17, .ref p18, .ref p19, .ref p20, .ref p21, .int (nI he), .ref p22])), (p16, .inl (cL, 8, .inr (.inl (vp_updL (vp_updL (vp_updL SA 2 (SA 2)) 3 (ba + a.toInt64)) 0 ((vp_updL (vp_updL SA 2 (SA 2)) 3 (ba + a.toInt64)) 0)))))] := hD
    refine lv_aload_n hx hb d_M_change_100 rfl (lv_at hl 1 rfl) ?_
    refine va_get (D := (dC, dI)) (ci := 8) (v := .ref p16) (C := "UpcastStreamsModel") (T := F_M) (N := 29) hx hb hts in_M hown hK hP 0 rfl rfl 21 (by decide) (hts _ uw_3_152) (fun _ h9 => h9) rfl d_M_change_101 ?_
    refine lv_iconst (v := (1 : Int32)) hx hb d_M_change_104 (by decide) ?_
    refine lv_iload_n hx hb d_M_change_105 rfl (lv_at hl 2 rfl) ?_
    refine lv_iconst (v := (3 : Int32)) hx hb d_M_change_106 (by decide) ?_
    refine lv_icmp_ne (tgt := 114) hx hb d_M_change_107 (by decide) (fun c12 => ?_) (fun h => absurd h (by decide))
    refine lv_iload_n hx hb d_M_change_114 rfl (lv_at hl 2 rfl) ?_
    refine lv_iconst (v := (4 : Int32)) hx hb d_M_change_115 (by decide) ?_
    refine lv_icmp_ne (tgt := 123) hx hb d_M_change_116 (by decide) (fun c13 => ?_) (fun h => absurd h (by decide))
    refine lv_aload_n hx hb d_M_change_123 rfl (lv_at hl 1 rfl) ?_
    refine va_get (D := (dC, dI)) (ci := 8) (v := .ref p16) (C := "UpcastStreamsModel") (T := F_M) (N := 29) hx hb hts in_M hown hK hP 0 rfl rfl 21 (by decide) (hts _ uw_3_152) (fun _ h9 => h9) rfl d_M_change_124 ?_
    refine lv_iconst (v := (1 : Int32)) hx hb d_M_change_127 (by decide) ?_
    refine us_lald (j := 1) hx hb hK hP 1 1 rfl rfl (by unfold vp_in; decide) (by decide) d_M_change_128 ?_
    refine us_last (j := 1) hx hb hK hP hD hS 1 1 rfl rfl (by unfold vp_in; decide) (by decide) d_M_change_129 (fun H locs hP hD hS => ?_)
    have hP : va_P (dC, dI) vwCl [(mm, .inr (8, [.int mp, .int co, .int (nI n), .ref p1, .ref p2, .ref p3, .ref p4, .ref p5, .int (nI un), .ref p6, .ref p7, .ref p8, .int cm, .ref p9, .ref p10, .ref p11, .int ope, .ref p12, .ref p13, .ref p14, .ref p15, .ref p16, .ref p17, .ref p18, .ref p19, .ref p20, .ref p21, .int (nI he), .ref p22])), (p16, .inl (cL, 8, .inr (.inl (vp_updL (vp_updL (vp_updL (vp_updL SA 2 (SA 2)) 3 (ba + a.toInt64)) 0 ((vp_updL (vp_updL SA 2 (SA 2)) 3 (ba + a.toInt64)) 0)) 1 ((vp_updL (vp_updL (vp_updL SA 2 (SA 2)) 3 (ba + a.toInt64)) 0 ((vp_updL (vp_updL SA 2 (SA 2)) 3 (ba + a.toInt64)) 0)) 1)))))] H := hP
    have hD : va_D zA [(mm, .inr (8, [.int mp, .int co, .int (nI n), .ref p1, .ref p2, .ref p3, .ref p4, .ref p5, .int (nI un), .ref p6, .ref p7, .ref p8, .int cm, .ref p9, .ref p10, .ref p11, .int ope, .ref p12, .ref p13, .ref p14, .ref p15, .ref p16, .ref p17, .ref p18, .ref p19, .ref p20, .ref p21, .int (nI he), .ref p22])), (p16, .inl (cL, 8, .inr (.inl (vp_updL (vp_updL (vp_updL (vp_updL SA 2 (SA 2)) 3 (ba + a.toInt64)) 0 ((vp_updL (vp_updL SA 2 (SA 2)) 3 (ba + a.toInt64)) 0)) 1 ((vp_updL (vp_updL (vp_updL SA 2 (SA 2)) 3 (ba + a.toInt64)) 0 ((vp_updL (vp_updL SA 2 (SA 2)) 3 (ba + a.toInt64)) 0)) 1)))))] := hD
    refine lv_aload_n hx hb d_M_change_130 rfl (lv_at hl 1 rfl) ?_
    refine va_get (D := (dC, dI)) (ci := 8) (v := .ref p16) (C := "UpcastStreamsModel") (T := F_M) (N := 29) hx hb hts in_M hown hK hP 0 rfl rfl 21 (by decide) (hts _ uw_3_152) (fun _ h9 => h9) rfl d_M_change_131 ?_
    refine lv_iconst (v := (4 : Int32)) hx hb d_M_change_134 (by decide) ?_
    refine lv_aload_n hx hb d_M_change_135 rfl (lv_at hl 1 rfl) ?_
    refine va_get (D := (dC, dI)) (ci := 8) (v := .ref p16) (C := "UpcastStreamsModel") (T := F_M) (N := 29) hx hb hts in_M hown hK hP 0 rfl rfl 21 (by decide) (hts _ uw_3_152) (fun _ h9 => h9) rfl d_M_change_136 ?_
    refine lv_iconst (v := (3 : Int32)) hx hb d_M_change_139 (by decide) ?_
    refine us_lald (j := 3) hx hb hK hP 1 1 rfl rfl (by unfold vp_in; decide) (by decide) d_M_change_140 ?_
    refine us_topl (show ((vp_updL (vp_updL (vp_updL (vp_updL SA 2 (SA 2)) 3 (ba + a.toInt64)) 0 ((vp_updL (vp_updL SA 2 (SA 2)) 3 (ba + a.toInt64)) 0)) 1 ((vp_updL (vp_updL (vp_updL SA 2 (SA 2)) 3 (ba + a.toInt64)) 0 ((vp_updL (vp_updL SA 2 (SA 2)) 3 (ba + a.toInt64)) 0)) 1)) 3) = (ba + a.toInt64) from by simp [vp_updL, s3]) ?_
    refine lv_aload_n hx hb d_M_change_141 rfl (lv_at hl 1 rfl) ?_
    refine va_get (D := (dC, dI)) (ci := 8) (v := .ref p16) (C := "UpcastStreamsModel") (T := F_M) (N := 29) hx hb hts in_M hown hK hP 0 rfl rfl 21 (by decide) (hts _ uw_3_152) (fun _ h9 => h9) rfl d_M_change_142 ?_
    refine lv_iconst (v := (4 : Int32)) hx hb d_M_change_145 (by decide) ?_
    refine us_lald (j := 4) hx hb hK hP 1 1 rfl rfl (by unfold vp_in; decide) (by decide) d_M_change_146 ?_
    refine us_topl (show ((vp_updL (vp_updL (vp_updL (vp_updL SA 2 (SA 2)) 3 (ba + a.toInt64)) 0 ((vp_updL (vp_updL SA 2 (SA 2)) 3 (ba + a.toInt64)) 0)) 1 ((vp_updL (vp_updL (vp_updL SA 2 (SA 2)) 3 (ba + a.toInt64)) 0 ((vp_updL (vp_updL SA 2 (SA 2)) 3 (ba + a.toInt64)) 0)) 1)) 4) = to from by simp [vp_updL, s4]) ?_
    refine W.lcmp hx hb d_M_change_147 ?_
    refine lv_if_le (tgt := 160) hx hb d_M_change_148 (by decide) (fun cx => ?_) (fun cx => ?_)
    · refine lv_aload_n hx hb d_M_change_160 rfl (lv_at hl 1 rfl) ?_
      refine va_get (D := (dC, dI)) (ci := 8) (v := .ref p16) (C := "UpcastStreamsModel") (T := F_M) (N := 29) hx hb hts in_M hown hK hP 0 rfl rfl 21 (by decide) (hts _ uw_3_152) (fun _ h9 => h9) rfl d_M_change_161 ?_
      refine lv_iconst (v := (4 : Int32)) hx hb d_M_change_164 (by decide) ?_
      refine us_lald (j := 4) hx hb hK hP 1 1 rfl rfl (by unfold vp_in; decide) (by decide) d_M_change_165 ?_
      refine us_topl (show ((vp_updL (vp_updL (vp_updL (vp_updL SA 2 (SA 2)) 3 (ba + a.toInt64)) 0 ((vp_updL (vp_updL SA 2 (SA 2)) 3 (ba + a.toInt64)) 0)) 1 ((vp_updL (vp_updL (vp_updL SA 2 (SA 2)) 3 (ba + a.toInt64)) 0 ((vp_updL (vp_updL SA 2 (SA 2)) 3 (ba + a.toInt64)) 0)) 1)) 4) = to from by simp [vp_updL, s4]) ?_
      refine us_last (j := 4) hx hb hK hP hD hS 1 1 rfl rfl (by unfold vp_in; decide) (by decide) d_M_change_166 (fun H locs hP hD hS => ?_)
      have hP : va_P (dC, dI) vwCl [(mm, .inr (8, [.int mp, .int co, .int (nI n), .ref p1, .ref p2, .ref p3, .ref p4, .ref p5, .int (nI un), .ref p6, .ref p7, .ref p8, .int cm, .ref p9, .ref p10, .ref p11, .int ope, .ref p12, .ref p13, .ref p14, .ref p15, .ref p16, .ref p17, .ref p18, .ref p19, .ref p20, .ref p21, .int (nI he), .ref p22])), (p16, .inl (cL, 8, .inr (.inl (vp_updL (vp_updL (vp_updL (vp_updL (vp_updL SA 2 (SA 2)) 3 (ba + a.toInt64)) 0 ((vp_updL (vp_updL SA 2 (SA 2)) 3 (ba + a.toInt64)) 0)) 1 ((vp_updL (vp_updL (vp_updL SA 2 (SA 2)) 3 (ba + a.toInt64)) 0 ((vp_updL (vp_updL SA 2 (SA 2)) 3 (ba + a.toInt64)) 0)) 1)) 4 to))))] H := hP
      have hD : va_D zA [(mm, .inr (8, [.int mp, .int co, .int (nI n), .ref p1, .ref p2, .ref p3, .ref p4, .ref p5, .int (nI un), .ref p6, .ref p7, .ref p8, .int cm, .ref p9, .ref p10, .ref p11, .int ope, .ref p12, .ref p13, .ref p14, .ref p15, .ref p16, .ref p17, .ref p18, .ref p19, .ref p20, .ref p21, .int (nI he), .ref p22])), (p16, .inl (cL, 8, .inr (.inl (vp_updL (vp_updL (vp_updL (vp_updL (vp_updL SA 2 (SA 2)) 3 (ba + a.toInt64)) 0 ((vp_updL (vp_updL SA 2 (SA 2)) 3 (ba + a.toInt64)) 0)) 1 ((vp_updL (vp_updL (vp_updL SA 2 (SA 2)) 3 (ba + a.toInt64)) 0 ((vp_updL (vp_updL SA 2 (SA 2)) 3 (ba + a.toInt64)) 0)) 1)) 4 to))))] := hD
      refine lv_aload_n hx hb d_M_change_167 rfl (lv_at hl 1 rfl) ?_
      refine va_get (D := (dC, dI)) (ci := 8) (v := .ref p16) (C := "UpcastStreamsModel") (T := F_M) (N := 29) hx hb hts in_M hown hK hP 0 rfl rfl 21 (by decide) (hts _ uw_3_152) (fun _ h9 => h9) rfl d_M_change_168 ?_
      refine lv_iconst (v := (5 : Int32)) hx hb d_M_change_171 (by decide) ?_
      refine lv_aload_n hx hb d_M_change_172 rfl (lv_at hl 1 rfl) ?_
      refine va_get (D := (dC, dI)) (ci := 8) (v := .ref p16) (C := "UpcastStreamsModel") (T := F_M) (N := 29) hx hb hts in_M hown hK hP 0 rfl rfl 21 (by decide) (hts _ uw_3_152) (fun _ h9 => h9) rfl d_M_change_173 ?_
      refine lv_iconst (v := (5 : Int32)) hx hb d_M_change_176 (by decide) ?_
      refine us_lald (j := 5) hx hb hK hP 1 1 rfl rfl (by unfold vp_in; decide) (by decide) d_M_change_177 ?_
      refine us_topl (show ((vp_updL (vp_updL (vp_updL (vp_updL (vp_updL SA 2 (SA 2)) 3 (ba + a.toInt64)) 0 ((vp_updL (vp_updL SA 2 (SA 2)) 3 (ba + a.toInt64)) 0)) 1 ((vp_updL (vp_updL (vp_updL SA 2 (SA 2)) 3 (ba + a.toInt64)) 0 ((vp_updL (vp_updL SA 2 (SA 2)) 3 (ba + a.toInt64)) 0)) 1)) 4 to) 5) = mo from by simp [vp_updL, s5]) ?_
      refine lv_lconst (v := (1 : Int64)) hx hb d_M_change_178 (by decide) ?_
      refine lv_ladd hx hb d_M_change_179 ?_
      refine us_last (j := 5) hx hb hK hP hD hS 1 1 rfl rfl (by unfold vp_in; decide) (by decide) d_M_change_180 (fun H locs hP hD hS => ?_)
      have hP : va_P (dC, dI) vwCl [(mm, .inr (8, [.int mp, .int co, .int (nI n), .ref p1, .ref p2, .ref p3, .ref p4, .ref p5, .int (nI un), .ref p6, .ref p7, .ref p8, .int cm, .ref p9, .ref p10, .ref p11, .int ope, .ref p12, .ref p13, .ref p14, .ref p15, .ref p16, .ref p17, .ref p18, .ref p19, .ref p20, .ref p21, .int (nI he), .ref p22])), (p16, .inl (cL, 8, .inr (.inl (vp_updL (vp_updL (vp_updL (vp_updL (vp_updL (vp_updL SA 2 (SA 2)) 3 (ba + a.toInt64)) 0 ((vp_updL (vp_updL SA 2 (SA 2)) 3 (ba + a.toInt64)) 0)) 1 ((vp_updL (vp_updL (vp_updL SA 2 (SA 2)) 3 (ba + a.toInt64)) 0 ((vp_updL (vp_updL SA 2 (SA 2)) 3 (ba + a.toInt64)) 0)) 1)) 4 to) 5 (mo + (1 : Int64))))))] H := hP
      have hD : va_D zA [(mm, .inr (8, [.int mp, .int co, .int (nI n), .ref p1, .ref p2, .ref p3, .ref p4, .ref p5, .int (nI un), .ref p6, .ref p7, .ref p8, .int cm, .ref p9, .ref p10, .ref p11, .int ope, .ref p12, .ref p13, .ref p14, .ref p15, .ref p16, .ref p17, .ref p18, .ref p19, .ref p20, .ref p21, .int (nI he), .ref p22])), (p16, .inl (cL, 8, .inr (.inl (vp_updL (vp_updL (vp_updL (vp_updL (vp_updL (vp_updL SA 2 (SA 2)) 3 (ba + a.toInt64)) 0 ((vp_updL (vp_updL SA 2 (SA 2)) 3 (ba + a.toInt64)) 0)) 1 ((vp_updL (vp_updL (vp_updL SA 2 (SA 2)) 3 (ba + a.toInt64)) 0 ((vp_updL (vp_updL SA 2 (SA 2)) 3 (ba + a.toInt64)) 0)) 1)) 4 to) 5 (mo + (1 : Int64))))))] := hD
      refine lv_aload_n hx hb d_M_change_181 rfl (lv_at hl 1 rfl) ?_
      refine va_get (D := (dC, dI)) (ci := 8) (v := .ref p16) (C := "UpcastStreamsModel") (T := F_M) (N := 29) hx hb hts in_M hown hK hP 0 rfl rfl 21 (by decide) (hts _ uw_3_152) (fun _ h9 => h9) rfl d_M_change_182 ?_
      refine lv_bipush (v := (7 : Int32)) hx hb d_M_change_185 (by decide) ?_
      refine lv_aload_n hx hb d_M_change_187 rfl (lv_at hl 1 rfl) ?_
      refine va_get (D := (dC, dI)) (ci := 8) (v := .ref p16) (C := "UpcastStreamsModel") (T := F_M) (N := 29) hx hb hts in_M hown hK hP 0 rfl rfl 21 (by decide) (hts _ uw_3_152) (fun _ h9 => h9) rfl d_M_change_188 ?_
      refine lv_bipush (v := (7 : Int32)) hx hb d_M_change_191 (by decide) ?_
      refine us_lald (j := 7) hx hb hK hP 1 1 rfl rfl (by unfold vp_in; decide) (by decide) d_M_change_193 ?_
      refine us_topl (show ((vp_updL (vp_updL (vp_updL (vp_updL (vp_updL (vp_updL SA 2 (SA 2)) 3 (ba + a.toInt64)) 0 ((vp_updL (vp_updL SA 2 (SA 2)) 3 (ba + a.toInt64)) 0)) 1 ((vp_updL (vp_updL (vp_updL SA 2 (SA 2)) 3 (ba + a.toInt64)) 0 ((vp_updL (vp_updL SA 2 (SA 2)) 3 (ba + a.toInt64)) 0)) 1)) 4 to) 5 (mo + (1 : Int64))) 7) = ch from by simp [vp_updL, s7]) ?_
      refine lv_ldc2 (v := (31 : Int64)) hx hb hown (hts _ uw_4_38) d_M_change_194 ?_
      refine lv_lmul hx hb d_M_change_197 ?_
      refine lv_iload_n hx hb d_M_change_198 rfl (lv_at hl 2 rfl) ?_
      refine lv_i2l (v := (nI 1).toInt64) hx hb d_M_change_199 rfl ?_
      refine lv_ladd hx hb d_M_change_200 ?_
      refine lv_ldc2 (v := (7 : Int64)) hx hb hown (hts _ uw_4_39) d_M_change_201 ?_
      refine lv_iload_n hx hb d_M_change_204 rfl (lv_at hl 3 rfl) ?_
      refine lv_i2l (v := a.toInt64) hx hb d_M_change_205 rfl ?_
      refine lv_lmul hx hb d_M_change_206 ?_
      refine lv_ladd hx hb d_M_change_207 ?_
      refine lv_iload_n hx hb d_M_change_208 rfl (lv_at hl 4 rfl) ?_
      refine lv_i2l (v := b.toInt64) hx hb d_M_change_209 rfl ?_
      refine lv_lxor hx hb d_M_change_210 ?_
      refine us_last (j := 7) hx hb hK hP hD hS 1 1 rfl rfl (by unfold vp_in; decide) (by decide) d_M_change_211 (fun H locs hP hD hS => ?_)
      have hP : va_P (dC, dI) vwCl [(mm, .inr (8, [.int mp, .int co, .int (nI n), .ref p1, .ref p2, .ref p3, .ref p4, .ref p5, .int (nI un), .ref p6, .ref p7, .ref p8, .int cm, .ref p9, .ref p10, .ref p11, .int ope, .ref p12, .ref p13, .ref p14, .ref p15, .ref p16, .ref p17, .ref p18, .ref p19, .ref p20, .ref p21, .int (nI he), .ref p22])), (p16, .inl (cL, 8, .inr (.inl (vp_updL (vp_updL (vp_updL (vp_updL (vp_updL (vp_updL (vp_updL SA 2 (SA 2)) 3 (ba + a.toInt64)) 0 ((vp_updL (vp_updL SA 2 (SA 2)) 3 (ba + a.toInt64)) 0)) 1 ((vp_updL (vp_updL (vp_updL SA 2 (SA 2)) 3 (ba + a.toInt64)) 0 ((vp_updL (vp_updL SA 2 (SA 2)) 3 (ba + a.toInt64)) 0)) 1)) 4 to) 5 (mo + (1 : Int64))) 7 ((((ch * (31 : Int64)) + ((nI 1).toInt64)) + ((7 : Int64) * a.toInt64)) ^^^ b.toInt64)))))] H := hP
      have hD : va_D zA [(mm, .inr (8, [.int mp, .int co, .int (nI n), .ref p1, .ref p2, .ref p3, .ref p4, .ref p5, .int (nI un), .ref p6, .ref p7, .ref p8, .int cm, .ref p9, .ref p10, .ref p11, .int ope, .ref p12, .ref p13, .ref p14, .ref p15, .ref p16, .ref p17, .ref p18, .ref p19, .ref p20, .ref p21, .int (nI he), .ref p22])), (p16, .inl (cL, 8, .inr (.inl (vp_updL (vp_updL (vp_updL (vp_updL (vp_updL (vp_updL (vp_updL SA 2 (SA 2)) 3 (ba + a.toInt64)) 0 ((vp_updL (vp_updL SA 2 (SA 2)) 3 (ba + a.toInt64)) 0)) 1 ((vp_updL (vp_updL (vp_updL SA 2 (SA 2)) 3 (ba + a.toInt64)) 0 ((vp_updL (vp_updL SA 2 (SA 2)) 3 (ba + a.toInt64)) 0)) 1)) 4 to) 5 (mo + (1 : Int64))) 7 ((((ch * (31 : Int64)) + ((nI 1).toInt64)) + ((7 : Int64) * a.toInt64)) ^^^ b.toInt64)))))] := hD
      exact us_vret hQ (by decide) (by decide) hx hb hr hlk hK hS (vp_updL (vp_updL (vp_updL (vp_updL (vp_updL (vp_updL (vp_updL SA 2 (SA 2)) 3 (ba + a.toInt64)) 0 ((vp_updL (vp_updL SA 2 (SA 2)) 3 (ba + a.toInt64)) 0)) 1 ((vp_updL (vp_updL (vp_updL SA 2 (SA 2)) 3 (ba + a.toInt64)) 0 ((vp_updL (vp_updL SA 2 (SA 2)) 3 (ba + a.toInt64)) 0)) 1)) 4 to) 5 (mo + (1 : Int64))) 7 ((((ch * (31 : Int64)) + ((nI 1).toInt64)) + ((7 : Int64) * a.toInt64)) ^^^ b.toInt64)) rfl (by first | (have cz := us_mx1 cx; refine ⟨?_, ?_, ?_, ?_, ?_, ?_, ?_, ?_⟩ <;> simp [us_chg, us_cnt, vp_updL, us_bl, s0, s1, s2, s3, s4, s5, s6, s7, cz]; done) | (have cz := us_mx2 cx; refine ⟨?_, ?_, ?_, ?_, ?_, ?_, ?_, ?_⟩ <;> simp [us_chg, us_cnt, vp_updL, us_bl, s0, s1, s2, s3, s4, s5, s6, s7, cz]; done)) hP hD d_M_change_212
    · refine lv_aload_n hx hb d_M_change_151 rfl (lv_at hl 1 rfl) ?_
      refine va_get (D := (dC, dI)) (ci := 8) (v := .ref p16) (C := "UpcastStreamsModel") (T := F_M) (N := 29) hx hb hts in_M hown hK hP 0 rfl rfl 21 (by decide) (hts _ uw_3_152) (fun _ h9 => h9) rfl d_M_change_152 ?_
      refine lv_iconst (v := (3 : Int32)) hx hb d_M_change_155 (by decide) ?_
      refine us_lald (j := 3) hx hb hK hP 1 1 rfl rfl (by unfold vp_in; decide) (by decide) d_M_change_156 ?_
      refine us_topl (show ((vp_updL (vp_updL (vp_updL (vp_updL SA 2 (SA 2)) 3 (ba + a.toInt64)) 0 ((vp_updL (vp_updL SA 2 (SA 2)) 3 (ba + a.toInt64)) 0)) 1 ((vp_updL (vp_updL (vp_updL SA 2 (SA 2)) 3 (ba + a.toInt64)) 0 ((vp_updL (vp_updL SA 2 (SA 2)) 3 (ba + a.toInt64)) 0)) 1)) 3) = (ba + a.toInt64) from by simp [vp_updL, s3]) ?_
      refine lv_goto (tgt := 166) hx hb d_M_change_157 (by decide) ?_
      refine us_last (j := 4) hx hb hK hP hD hS 1 1 rfl rfl (by unfold vp_in; decide) (by decide) d_M_change_166 (fun H locs hP hD hS => ?_)
      have hP : va_P (dC, dI) vwCl [(mm, .inr (8, [.int mp, .int co, .int (nI n), .ref p1, .ref p2, .ref p3, .ref p4, .ref p5, .int (nI un), .ref p6, .ref p7, .ref p8, .int cm, .ref p9, .ref p10, .ref p11, .int ope, .ref p12, .ref p13, .ref p14, .ref p15, .ref p16, .ref p17, .ref p18, .ref p19, .ref p20, .ref p21, .int (nI he), .ref p22])), (p16, .inl (cL, 8, .inr (.inl (vp_updL (vp_updL (vp_updL (vp_updL (vp_updL SA 2 (SA 2)) 3 (ba + a.toInt64)) 0 ((vp_updL (vp_updL SA 2 (SA 2)) 3 (ba + a.toInt64)) 0)) 1 ((vp_updL (vp_updL (vp_updL SA 2 (SA 2)) 3 (ba + a.toInt64)) 0 ((vp_updL (vp_updL SA 2 (SA 2)) 3 (ba + a.toInt64)) 0)) 1)) 4 (ba + a.toInt64)))))] H := hP
      have hD : va_D zA [(mm, .inr (8, [.int mp, .int co, .int (nI n), .ref p1, .ref p2, .ref p3, .ref p4, .ref p5, .int (nI un), .ref p6, .ref p7, .ref p8, .int cm, .ref p9, .ref p10, .ref p11, .int ope, .ref p12, .ref p13, .ref p14, .ref p15, .ref p16, .ref p17, .ref p18, .ref p19, .ref p20, .ref p21, .int (nI he), .ref p22])), (p16, .inl (cL, 8, .inr (.inl (vp_updL (vp_updL (vp_updL (vp_updL (vp_updL SA 2 (SA 2)) 3 (ba + a.toInt64)) 0 ((vp_updL (vp_updL SA 2 (SA 2)) 3 (ba + a.toInt64)) 0)) 1 ((vp_updL (vp_updL (vp_updL SA 2 (SA 2)) 3 (ba + a.toInt64)) 0 ((vp_updL (vp_updL SA 2 (SA 2)) 3 (ba + a.toInt64)) 0)) 1)) 4 (ba + a.toInt64)))))] := hD
      refine lv_aload_n hx hb d_M_change_167 rfl (lv_at hl 1 rfl) ?_
      refine va_get (D := (dC, dI)) (ci := 8) (v := .ref p16) (C := "UpcastStreamsModel") (T := F_M) (N := 29) hx hb hts in_M hown hK hP 0 rfl rfl 21 (by decide) (hts _ uw_3_152) (fun _ h9 => h9) rfl d_M_change_168 ?_
      refine lv_iconst (v := (5 : Int32)) hx hb d_M_change_171 (by decide) ?_
      refine lv_aload_n hx hb d_M_change_172 rfl (lv_at hl 1 rfl) ?_
      refine va_get (D := (dC, dI)) (ci := 8) (v := .ref p16) (C := "UpcastStreamsModel") (T := F_M) (N := 29) hx hb hts in_M hown hK hP 0 rfl rfl 21 (by decide) (hts _ uw_3_152) (fun _ h9 => h9) rfl d_M_change_173 ?_
      refine lv_iconst (v := (5 : Int32)) hx hb d_M_change_176 (by decide) ?_
      refine us_lald (j := 5) hx hb hK hP 1 1 rfl rfl (by unfold vp_in; decide) (by decide) d_M_change_177 ?_
      refine us_topl (show ((vp_updL (vp_updL (vp_updL (vp_updL (vp_updL SA 2 (SA 2)) 3 (ba + a.toInt64)) 0 ((vp_updL (vp_updL SA 2 (SA 2)) 3 (ba + a.toInt64)) 0)) 1 ((vp_updL (vp_updL (vp_updL SA 2 (SA 2)) 3 (ba + a.toInt64)) 0 ((vp_updL (vp_updL SA 2 (SA 2)) 3 (ba + a.toInt64)) 0)) 1)) 4 (ba + a.toInt64)) 5) = mo from by simp [vp_updL, s5]) ?_
      refine lv_lconst (v := (1 : Int64)) hx hb d_M_change_178 (by decide) ?_
      refine lv_ladd hx hb d_M_change_179 ?_
      refine us_last (j := 5) hx hb hK hP hD hS 1 1 rfl rfl (by unfold vp_in; decide) (by decide) d_M_change_180 (fun H locs hP hD hS => ?_)
      have hP : va_P (dC, dI) vwCl [(mm, .inr (8, [.int mp, .int co, .int (nI n), .ref p1, .ref p2, .ref p3, .ref p4, .ref p5, .int (nI un), .ref p6, .ref p7, .ref p8, .int cm, .ref p9, .ref p10, .ref p11, .int ope, .ref p12, .ref p13, .ref p14, .ref p15, .ref p16, .ref p17, .ref p18, .ref p19, .ref p20, .ref p21, .int (nI he), .ref p22])), (p16, .inl (cL, 8, .inr (.inl (vp_updL (vp_updL (vp_updL (vp_updL (vp_updL (vp_updL SA 2 (SA 2)) 3 (ba + a.toInt64)) 0 ((vp_updL (vp_updL SA 2 (SA 2)) 3 (ba + a.toInt64)) 0)) 1 ((vp_updL (vp_updL (vp_updL SA 2 (SA 2)) 3 (ba + a.toInt64)) 0 ((vp_updL (vp_updL SA 2 (SA 2)) 3 (ba + a.toInt64)) 0)) 1)) 4 (ba + a.toInt64)) 5 (mo + (1 : Int64))))))] H := hP
      have hD : va_D zA [(mm, .inr (8, [.int mp, .int co, .int (nI n), .ref p1, .ref p2, .ref p3, .ref p4, .ref p5, .int (nI un), .ref p6, .ref p7, .ref p8, .int cm, .ref p9, .ref p10, .ref p11, .int ope, .ref p12, .ref p13, .ref p14, .ref p15, .ref p16, .ref p17, .ref p18, .ref p19, .ref p20, .ref p21, .int (nI he), .ref p22])), (p16, .inl (cL, 8, .inr (.inl (vp_updL (vp_updL (vp_updL (vp_updL (vp_updL (vp_updL SA 2 (SA 2)) 3 (ba + a.toInt64)) 0 ((vp_updL (vp_updL SA 2 (SA 2)) 3 (ba + a.toInt64)) 0)) 1 ((vp_updL (vp_updL (vp_updL SA 2 (SA 2)) 3 (ba + a.toInt64)) 0 ((vp_updL (vp_updL SA 2 (SA 2)) 3 (ba + a.toInt64)) 0)) 1)) 4 (ba + a.toInt64)) 5 (mo + (1 : Int64))))))] := hD
      refine lv_aload_n hx hb d_M_change_181 rfl (lv_at hl 1 rfl) ?_
      refine va_get (D := (dC, dI)) (ci := 8) (v := .ref p16) (C := "UpcastStreamsModel") (T := F_M) (N := 29) hx hb hts in_M hown hK hP 0 rfl rfl 21 (by decide) (hts _ uw_3_152) (fun _ h9 => h9) rfl d_M_change_182 ?_
      refine lv_bipush (v := (7 : Int32)) hx hb d_M_change_185 (by decide) ?_
      refine lv_aload_n hx hb d_M_change_187 rfl (lv_at hl 1 rfl) ?_
      refine va_get (D := (dC, dI)) (ci := 8) (v := .ref p16) (C := "UpcastStreamsModel") (T := F_M) (N := 29) hx hb hts in_M hown hK hP 0 rfl rfl 21 (by decide) (hts _ uw_3_152) (fun _ h9 => h9) rfl d_M_change_188 ?_
      refine lv_bipush (v := (7 : Int32)) hx hb d_M_change_191 (by decide) ?_
      refine us_lald (j := 7) hx hb hK hP 1 1 rfl rfl (by unfold vp_in; decide) (by decide) d_M_change_193 ?_
      refine us_topl (show ((vp_updL (vp_updL (vp_updL (vp_updL (vp_updL (vp_updL SA 2 (SA 2)) 3 (ba + a.toInt64)) 0 ((vp_updL (vp_updL SA 2 (SA 2)) 3 (ba + a.toInt64)) 0)) 1 ((vp_updL (vp_updL (vp_updL SA 2 (SA 2)) 3 (ba + a.toInt64)) 0 ((vp_updL (vp_updL SA 2 (SA 2)) 3 (ba + a.toInt64)) 0)) 1)) 4 (ba + a.toInt64)) 5 (mo + (1 : Int64))) 7) = ch from by simp [vp_updL, s7]) ?_
      refine lv_ldc2 (v := (31 : Int64)) hx hb hown (hts _ uw_4_38) d_M_change_194 ?_
      refine lv_lmul hx hb d_M_change_197 ?_
      refine lv_iload_n hx hb d_M_change_198 rfl (lv_at hl 2 rfl) ?_
      refine lv_i2l (v := (nI 1).toInt64) hx hb d_M_change_199 rfl ?_
      refine lv_ladd hx hb d_M_change_200 ?_
      refine lv_ldc2 (v := (7 : Int64)) hx hb hown (hts _ uw_4_39) d_M_change_201 ?_
      refine lv_iload_n hx hb d_M_change_204 rfl (lv_at hl 3 rfl) ?_
      refine lv_i2l (v := a.toInt64) hx hb d_M_change_205 rfl ?_
      refine lv_lmul hx hb d_M_change_206 ?_
      refine lv_ladd hx hb d_M_change_207 ?_
      refine lv_iload_n hx hb d_M_change_208 rfl (lv_at hl 4 rfl) ?_
      refine lv_i2l (v := b.toInt64) hx hb d_M_change_209 rfl ?_
      refine lv_lxor hx hb d_M_change_210 ?_
      refine us_last (j := 7) hx hb hK hP hD hS 1 1 rfl rfl (by unfold vp_in; decide) (by decide) d_M_change_211 (fun H locs hP hD hS => ?_)
      have hP : va_P (dC, dI) vwCl [(mm, .inr (8, [.int mp, .int co, .int (nI n), .ref p1, .ref p2, .ref p3, .ref p4, .ref p5, .int (nI un), .ref p6, .ref p7, .ref p8, .int cm, .ref p9, .ref p10, .ref p11, .int ope, .ref p12, .ref p13, .ref p14, .ref p15, .ref p16, .ref p17, .ref p18, .ref p19, .ref p20, .ref p21, .int (nI he), .ref p22])), (p16, .inl (cL, 8, .inr (.inl (vp_updL (vp_updL (vp_updL (vp_updL (vp_updL (vp_updL (vp_updL SA 2 (SA 2)) 3 (ba + a.toInt64)) 0 ((vp_updL (vp_updL SA 2 (SA 2)) 3 (ba + a.toInt64)) 0)) 1 ((vp_updL (vp_updL (vp_updL SA 2 (SA 2)) 3 (ba + a.toInt64)) 0 ((vp_updL (vp_updL SA 2 (SA 2)) 3 (ba + a.toInt64)) 0)) 1)) 4 (ba + a.toInt64)) 5 (mo + (1 : Int64))) 7 ((((ch * (31 : Int64)) + ((nI 1).toInt64)) + ((7 : Int64) * a.toInt64)) ^^^ b.toInt64)))))] H := hP
      have hD : va_D zA [(mm, .inr (8, [.int mp, .int co, .int (nI n), .ref p1, .ref p2, .ref p3, .ref p4, .ref p5, .int (nI un), .ref p6, .ref p7, .ref p8, .int cm, .ref p9, .ref p10, .ref p11, .int ope, .ref p12, .ref p13, .ref p14, .ref p15, .ref p16, .ref p17, .ref p18, .ref p19, .ref p20, .ref p21, .int (nI he), .ref p22])), (p16, .inl (cL, 8, .inr (.inl (vp_updL (vp_updL (vp_updL (vp_updL (vp_updL (vp_updL (vp_updL SA 2 (SA 2)) 3 (ba + a.toInt64)) 0 ((vp_updL (vp_updL SA 2 (SA 2)) 3 (ba + a.toInt64)) 0)) 1 ((vp_updL (vp_updL (vp_updL SA 2 (SA 2)) 3 (ba + a.toInt64)) 0 ((vp_updL (vp_updL SA 2 (SA 2)) 3 (ba + a.toInt64)) 0)) 1)) 4 (ba + a.toInt64)) 5 (mo + (1 : Int64))) 7 ((((ch * (31 : Int64)) + ((nI 1).toInt64)) + ((7 : Int64) * a.toInt64)) ^^^ b.toInt64)))))] := hD
      exact us_vret hQ (by decide) (by decide) hx hb hr hlk hK hS (vp_updL (vp_updL (vp_updL (vp_updL (vp_updL (vp_updL (vp_updL SA 2 (SA 2)) 3 (ba + a.toInt64)) 0 ((vp_updL (vp_updL SA 2 (SA 2)) 3 (ba + a.toInt64)) 0)) 1 ((vp_updL (vp_updL (vp_updL SA 2 (SA 2)) 3 (ba + a.toInt64)) 0 ((vp_updL (vp_updL SA 2 (SA 2)) 3 (ba + a.toInt64)) 0)) 1)) 4 (ba + a.toInt64)) 5 (mo + (1 : Int64))) 7 ((((ch * (31 : Int64)) + ((nI 1).toInt64)) + ((7 : Int64) * a.toInt64)) ^^^ b.toInt64)) rfl (by first | (have cz := us_mx1 cx; refine ⟨?_, ?_, ?_, ?_, ?_, ?_, ?_, ?_⟩ <;> simp [us_chg, us_cnt, vp_updL, us_bl, s0, s1, s2, s3, s4, s5, s6, s7, cz]; done) | (have cz := us_mx2 cx; refine ⟨?_, ?_, ?_, ?_, ?_, ?_, ?_, ?_⟩ <;> simp [us_chg, us_cnt, vp_updL, us_bl, s0, s1, s2, s3, s4, s5, s6, s7, cz]; done)) hP hD d_M_change_212
  · refine lv_aload_n hx hb d_M_change_0 rfl (lv_at hl 0 rfl) ?_
    refine va_get (D := (dC, dI)) (ci := 8) (v := .ref p16) (C := "UpcastStreamsModel") (T := F_M) (N := 29) hx hb hts in_M hown hK hP 0 rfl rfl 21 (by decide) (hts _ uw_3_152) (fun _ h9 => h9) rfl d_M_change_1 ?_
    refine lv_iconst (v := (3 : Int32)) hx hb d_M_change_4 (by decide) ?_
    refine us_lald (j := 3) hx hb hK hP 1 1 rfl rfl (by unfold vp_in; decide) (by decide) d_M_change_5 ?_
    refine us_topl (show (SA 3) = ba from s3) ?_
    refine lv_lstore (lv' := [(4, .long ba), (0, .ref mm), (1, .int (nI 2)), (2, .int a), (3, .int b)]) hx hb d_M_change_6 hl (by decide) rfl (fun ls hl => ?_)
    refine lv_aload_n hx hb d_M_change_8 rfl (lv_at hl 1 rfl) ?_
    refine va_get (D := (dC, dI)) (ci := 8) (v := .ref p16) (C := "UpcastStreamsModel") (T := F_M) (N := 29) hx hb hts in_M hown hK hP 0 rfl rfl 21 (by decide) (hts _ uw_3_152) (fun _ h9 => h9) rfl d_M_change_9 ?_
    refine lv_iconst (v := (2 : Int32)) hx hb d_M_change_12 (by decide) ?_
    refine lv_iload_n hx hb d_M_change_13 rfl (lv_at hl 2 rfl) ?_
    refine lv_if_ne (tgt := 22) hx hb d_M_change_14 (by decide) (fun c15 => ?_) (fun h => absurd h (by decide))
    refine lv_aload_n hx hb d_M_change_22 rfl (lv_at hl 1 rfl) ?_
    refine va_get (D := (dC, dI)) (ci := 8) (v := .ref p16) (C := "UpcastStreamsModel") (T := F_M) (N := 29) hx hb hts in_M hown hK hP 0 rfl rfl 21 (by decide) (hts _ uw_3_152) (fun _ h9 => h9) rfl d_M_change_23 ?_
    refine lv_iconst (v := (2 : Int32)) hx hb d_M_change_26 (by decide) ?_
    refine us_lald (j := 2) hx hb hK hP 1 1 rfl rfl (by unfold vp_in; decide) (by decide) d_M_change_27 ?_
    refine us_last (j := 2) hx hb hK hP hD hS 1 1 rfl rfl (by unfold vp_in; decide) (by decide) d_M_change_28 (fun H locs hP hD hS => ?_)
    have hP : va_P (dC, dI) vwCl [(mm, .inr (8, [.int mp, .int co, .int (nI n), .ref p1, .ref p2, .ref p3, .ref p4, .ref p5, .int (nI un), .ref p6, .ref p7, .ref p8, .int cm, .ref p9, .ref p10, .ref p11, .int ope, .ref p12, .ref p13, .ref p14, .ref p15, .ref p16, .ref p17, .ref p18, .ref p19, .ref p20, .ref p21, .int (nI he), .ref p22])), (p16, .inl (cL, 8, .inr (.inl (vp_updL SA 2 (SA 2)))))] H := hP
    have hD : va_D zA [(mm, .inr (8, [.int mp, .int co, .int (nI n), .ref p1, .ref p2, .ref p3, .ref p4, .ref p5, .int (nI un), .ref p6, .ref p7, .ref p8, .int cm, .ref p9, .ref p10, .ref p11, .int ope, .ref p12, .ref p13, .ref p14, .ref p15, .ref p16, .ref p17, .ref p18, .ref p19, .ref p20, .ref p21, .int (nI he), .ref p22])), (p16, .inl (cL, 8, .inr (.inl (vp_updL SA 2 (SA 2)))))] := hD
    refine lv_aload_n hx hb d_M_change_29 rfl (lv_at hl 1 rfl) ?_
    refine va_get (D := (dC, dI)) (ci := 8) (v := .ref p16) (C := "UpcastStreamsModel") (T := F_M) (N := 29) hx hb hts in_M hown hK hP 0 rfl rfl 21 (by decide) (hts _ uw_3_152) (fun _ h9 => h9) rfl d_M_change_30 ?_
    refine lv_iconst (v := (3 : Int32)) hx hb d_M_change_33 (by decide) ?_
    refine lv_iload_n hx hb d_M_change_34 rfl (lv_at hl 2 rfl) ?_
    refine lv_if_ne (tgt := 42) hx hb d_M_change_35 (by decide) (fun c16 => ?_) (fun h => absurd h (by decide))
    refine lv_iload_n hx hb d_M_change_42 rfl (lv_at hl 2 rfl) ?_
    refine lv_iconst (v := (1 : Int32)) hx hb d_M_change_43 (by decide) ?_
    refine lv_icmp_ne (tgt := 55) hx hb d_M_change_44 (by decide) (fun c17 => ?_) (fun h => absurd h (by decide))
    refine lv_iload_n hx hb d_M_change_55 rfl (lv_at hl 2 rfl) ?_
    refine lv_iconst (v := (2 : Int32)) hx hb d_M_change_56 (by decide) ?_
    refine lv_icmp_ne (tgt := 68) hx hb d_M_change_57 (by decide) (fun h => absurd h (by decide)) (fun c18 => ?_)
    refine lv_lload hx hb d_M_change_60 (lv_at hl 0 rfl) ?_
    refine lv_iload_n hx hb d_M_change_62 rfl (lv_at hl 3 rfl) ?_
    refine lv_i2l (v := a.toInt64) hx hb d_M_change_63 rfl ?_
    refine lv_lsub hx hb d_M_change_64 ?_
    refine lv_goto (tgt := 70) hx hb d_M_change_65 (by decide) ?_
    refine us_last (j := 3) hx hb hK hP hD hS 1 1 rfl rfl (by unfold vp_in; decide) (by decide) d_M_change_70 (fun H locs hP hD hS => ?_)
    have hP : va_P (dC, dI) vwCl [(mm, .inr (8, [.int mp, .int co, .int (nI n), .ref p1, .ref p2, .ref p3, .ref p4, .ref p5, .int (nI un), .ref p6, .ref p7, .ref p8, .int cm, .ref p9, .ref p10, .ref p11, .int ope, .ref p12, .ref p13, .ref p14, .ref p15, .ref p16, .ref p17, .ref p18, .ref p19, .ref p20, .ref p21, .int (nI he), .ref p22])), (p16, .inl (cL, 8, .inr (.inl (vp_updL (vp_updL SA 2 (SA 2)) 3 (ba - a.toInt64)))))] H := hP
    have hD : va_D zA [(mm, .inr (8, [.int mp, .int co, .int (nI n), .ref p1, .ref p2, .ref p3, .ref p4, .ref p5, .int (nI un), .ref p6, .ref p7, .ref p8, .int cm, .ref p9, .ref p10, .ref p11, .int ope, .ref p12, .ref p13, .ref p14, .ref p15, .ref p16, .ref p17, .ref p18, .ref p19, .ref p20, .ref p21, .int (nI he), .ref p22])), (p16, .inl (cL, 8, .inr (.inl (vp_updL (vp_updL SA 2 (SA 2)) 3 (ba - a.toInt64)))))] := hD
    refine lv_aload_n hx hb d_M_change_71 rfl (lv_at hl 1 rfl) ?_
    refine va_get (D := (dC, dI)) (ci := 8) (v := .ref p16) (C := "UpcastStreamsModel") (T := F_M) (N := 29) hx hb hts in_M hown hK hP 0 rfl rfl 21 (by decide) (hts _ uw_3_152) (fun _ h9 => h9) rfl d_M_change_72 ?_
    refine lv_iconst (v := (0 : Int32)) hx hb d_M_change_75 (by decide) ?_
    refine lv_iload_n hx hb d_M_change_76 rfl (lv_at hl 2 rfl) ?_
    refine lv_if_ne (tgt := 84) hx hb d_M_change_77 (by decide) (fun c19 => ?_) (fun h => absurd h (by decide))
    refine lv_iload_n hx hb d_M_change_84 rfl (lv_at hl 2 rfl) ?_
    refine lv_iconst (v := (5 : Int32)) hx hb d_M_change_85 (by decide) ?_
    refine lv_icmp_ne (tgt := 93) hx hb d_M_change_86 (by decide) (fun c20 => ?_) (fun h => absurd h (by decide))
    refine lv_aload_n hx hb d_M_change_93 rfl (lv_at hl 1 rfl) ?_
    refine va_get (D := (dC, dI)) (ci := 8) (v := .ref p16) (C := "UpcastStreamsModel") (T := F_M) (N := 29) hx hb hts in_M hown hK hP 0 rfl rfl 21 (by decide) (hts _ uw_3_152) (fun _ h9 => h9) rfl d_M_change_94 ?_
    refine lv_iconst (v := (0 : Int32)) hx hb d_M_change_97 (by decide) ?_
    refine us_lald (j := 0) hx hb hK hP 1 1 rfl rfl (by unfold vp_in; decide) (by decide) d_M_change_98 ?_
    refine us_last (j := 0) hx hb hK hP hD hS 1 1 rfl rfl (by unfold vp_in; decide) (by decide) d_M_change_99 (fun H locs hP hD hS => ?_)
    have hP : va_P (dC, dI) vwCl [(mm, .inr (8, [.int mp, .int co, .int (nI n), .ref p1, .ref p2, .ref p3, .ref p4, .ref p5, .int (nI un), .ref p6, .ref p7, .ref p8, .int cm, .ref p9, .ref p10, .ref p11, .int ope, .ref p12, .ref p13, .ref p14, .ref p15, .ref p16, .ref p17, .ref p18, .ref p19, .ref p20, .ref p21, .int (nI he), .ref p22])), (p16, .inl (cL, 8, .inr (.inl (vp_updL (vp_updL (vp_updL SA 2 (SA 2)) 3 (ba - a.toInt64)) 0 ((vp_updL (vp_updL SA 2 (SA 2)) 3 (ba - a.toInt64)) 0)))))] H := hP
    have hD : va_D zA [(mm, .inr (8, [.int mp, .int co, .int (nI n), .ref p1, .ref p2, .ref p3, .ref p4, .ref p5, .int (nI un), .ref p6, .ref p7, .ref p8, .int cm, .ref p9, .ref p10, .ref p11, .int ope, .ref p12, .ref p13, .ref p14, .ref p15, .ref p16, .ref p17, .ref p18, .ref p19, .ref p20, .ref p21, .int (nI he), .ref p22])), (p16, .inl (cL, 8, .inr (.inl (vp_updL (vp_updL (vp_updL SA 2 (SA 2)) 3 (ba - a.toInt64)) 0 ((vp_updL (vp_updL SA 2 (SA 2)) 3 (ba - a.toInt64)) 0)))))] := hD
    refine lv_aload_n hx hb d_M_change_100 rfl (lv_at hl 1 rfl) ?_
    refine va_get (D := (dC, dI)) (ci := 8) (v := .ref p16) (C := "UpcastStreamsModel") (T := F_M) (N := 29) hx hb hts in_M hown hK hP 0 rfl rfl 21 (by decide) (hts _ uw_3_152) (fun _ h9 => h9) rfl d_M_change_101 ?_
    refine lv_iconst (v := (1 : Int32)) hx hb d_M_change_104 (by decide) ?_
    refine lv_iload_n hx hb d_M_change_105 rfl (lv_at hl 2 rfl) ?_
    refine lv_iconst (v := (3 : Int32)) hx hb d_M_change_106 (by decide) ?_
    refine lv_icmp_ne (tgt := 114) hx hb d_M_change_107 (by decide) (fun c21 => ?_) (fun h => absurd h (by decide))
    refine lv_iload_n hx hb d_M_change_114 rfl (lv_at hl 2 rfl) ?_
    refine lv_iconst (v := (4 : Int32)) hx hb d_M_change_115 (by decide) ?_
    refine lv_icmp_ne (tgt := 123) hx hb d_M_change_116 (by decide) (fun c22 => ?_) (fun h => absurd h (by decide))
    refine lv_aload_n hx hb d_M_change_123 rfl (lv_at hl 1 rfl) ?_
    refine va_get (D := (dC, dI)) (ci := 8) (v := .ref p16) (C := "UpcastStreamsModel") (T := F_M) (N := 29) hx hb hts in_M hown hK hP 0 rfl rfl 21 (by decide) (hts _ uw_3_152) (fun _ h9 => h9) rfl d_M_change_124 ?_
    refine lv_iconst (v := (1 : Int32)) hx hb d_M_change_127 (by decide) ?_
    refine us_lald (j := 1) hx hb hK hP 1 1 rfl rfl (by unfold vp_in; decide) (by decide) d_M_change_128 ?_
    refine us_last (j := 1) hx hb hK hP hD hS 1 1 rfl rfl (by unfold vp_in; decide) (by decide) d_M_change_129 (fun H locs hP hD hS => ?_)
    have hP : va_P (dC, dI) vwCl [(mm, .inr (8, [.int mp, .int co, .int (nI n), .ref p1, .ref p2, .ref p3, .ref p4, .ref p5, .int (nI un), .ref p6, .ref p7, .ref p8, .int cm, .ref p9, .ref p10, .ref p11, .int ope, .ref p12, .ref p13, .ref p14, .ref p15, .ref p16, .ref p17, .ref p18, .ref p19, .ref p20, .ref p21, .int (nI he), .ref p22])), (p16, .inl (cL, 8, .inr (.inl (vp_updL (vp_updL (vp_updL (vp_updL SA 2 (SA 2)) 3 (ba - a.toInt64)) 0 ((vp_updL (vp_updL SA 2 (SA 2)) 3 (ba - a.toInt64)) 0)) 1 ((vp_updL (vp_updL (vp_updL SA 2 (SA 2)) 3 (ba - a.toInt64)) 0 ((vp_updL (vp_updL SA 2 (SA 2)) 3 (ba - a.toInt64)) 0)) 1)))))] H := hP
    have hD : va_D zA [(mm, .inr (8, [.int mp, .int co, .int (nI n), .ref p1, .ref p2, .ref p3, .ref p4, .ref p5, .int (nI un), .ref p6, .ref p7, .ref p8, .int cm, .ref p9, .ref p10, .ref p11, .int ope, .ref p12, .ref p13, .ref p14, .ref p15, .ref p16, .ref p17, .ref p18, .ref p19, .ref p20, .ref p21, .int (nI he), .ref p22])), (p16, .inl (cL, 8, .inr (.inl (vp_updL (vp_updL (vp_updL (vp_updL SA 2 (SA 2)) 3 (ba - a.toInt64)) 0 ((vp_updL (vp_updL SA 2 (SA 2)) 3 (ba - a.toInt64)) 0)) 1 ((vp_updL (vp_updL (vp_updL SA 2 (SA 2)) 3 (ba - a.toInt64)) 0 ((vp_updL (vp_updL SA 2 (SA 2)) 3 (ba - a.toInt64)) 0)) 1)))))] := hD
    refine lv_aload_n hx hb d_M_change_130 rfl (lv_at hl 1 rfl) ?_
    refine va_get (D := (dC, dI)) (ci := 8) (v := .ref p16) (C := "UpcastStreamsModel") (T := F_M) (N := 29) hx hb hts in_M hown hK hP 0 rfl rfl 21 (by decide) (hts _ uw_3_152) (fun _ h9 => h9) rfl d_M_change_131 ?_
    refine lv_iconst (v := (4 : Int32)) hx hb d_M_change_134 (by decide) ?_
    refine lv_aload_n hx hb d_M_change_135 rfl (lv_at hl 1 rfl) ?_
    refine va_get (D := (dC, dI)) (ci := 8) (v := .ref p16) (C := "UpcastStreamsModel") (T := F_M) (N := 29) hx hb hts in_M hown hK hP 0 rfl rfl 21 (by decide) (hts _ uw_3_152) (fun _ h9 => h9) rfl d_M_change_136 ?_
    refine lv_iconst (v := (3 : Int32)) hx hb d_M_change_139 (by decide) ?_
    refine us_lald (j := 3) hx hb hK hP 1 1 rfl rfl (by unfold vp_in; decide) (by decide) d_M_change_140 ?_
    refine us_topl (show ((vp_updL (vp_updL (vp_updL (vp_updL SA 2 (SA 2)) 3 (ba - a.toInt64)) 0 ((vp_updL (vp_updL SA 2 (SA 2)) 3 (ba - a.toInt64)) 0)) 1 ((vp_updL (vp_updL (vp_updL SA 2 (SA 2)) 3 (ba - a.toInt64)) 0 ((vp_updL (vp_updL SA 2 (SA 2)) 3 (ba - a.toInt64)) 0)) 1)) 3) = (ba - a.toInt64) from by simp [vp_updL, s3]) ?_
    refine lv_aload_n hx hb d_M_change_141 rfl (lv_at hl 1 rfl) ?_
    refine va_get (D := (dC, dI)) (ci := 8) (v := .ref p16) (C := "UpcastStreamsModel") (T := F_M) (N := 29) hx hb hts in_M hown hK hP 0 rfl rfl 21 (by decide) (hts _ uw_3_152) (fun _ h9 => h9) rfl d_M_change_142 ?_
    refine lv_iconst (v := (4 : Int32)) hx hb d_M_change_145 (by decide) ?_
    refine us_lald (j := 4) hx hb hK hP 1 1 rfl rfl (by unfold vp_in; decide) (by decide) d_M_change_146 ?_
    refine us_topl (show ((vp_updL (vp_updL (vp_updL (vp_updL SA 2 (SA 2)) 3 (ba - a.toInt64)) 0 ((vp_updL (vp_updL SA 2 (SA 2)) 3 (ba - a.toInt64)) 0)) 1 ((vp_updL (vp_updL (vp_updL SA 2 (SA 2)) 3 (ba - a.toInt64)) 0 ((vp_updL (vp_updL SA 2 (SA 2)) 3 (ba - a.toInt64)) 0)) 1)) 4) = to from by simp [vp_updL, s4]) ?_
    refine W.lcmp hx hb d_M_change_147 ?_
    refine lv_if_le (tgt := 160) hx hb d_M_change_148 (by decide) (fun cx => ?_) (fun cx => ?_)
    · refine lv_aload_n hx hb d_M_change_160 rfl (lv_at hl 1 rfl) ?_
      refine va_get (D := (dC, dI)) (ci := 8) (v := .ref p16) (C := "UpcastStreamsModel") (T := F_M) (N := 29) hx hb hts in_M hown hK hP 0 rfl rfl 21 (by decide) (hts _ uw_3_152) (fun _ h9 => h9) rfl d_M_change_161 ?_
      refine lv_iconst (v := (4 : Int32)) hx hb d_M_change_164 (by decide) ?_
      refine us_lald (j := 4) hx hb hK hP 1 1 rfl rfl (by unfold vp_in; decide) (by decide) d_M_change_165 ?_
      refine us_topl (show ((vp_updL (vp_updL (vp_updL (vp_updL SA 2 (SA 2)) 3 (ba - a.toInt64)) 0 ((vp_updL (vp_updL SA 2 (SA 2)) 3 (ba - a.toInt64)) 0)) 1 ((vp_updL (vp_updL (vp_updL SA 2 (SA 2)) 3 (ba - a.toInt64)) 0 ((vp_updL (vp_updL SA 2 (SA 2)) 3 (ba - a.toInt64)) 0)) 1)) 4) = to from by simp [vp_updL, s4]) ?_
      refine us_last (j := 4) hx hb hK hP hD hS 1 1 rfl rfl (by unfold vp_in; decide) (by decide) d_M_change_166 (fun H locs hP hD hS => ?_)
      have hP : va_P (dC, dI) vwCl [(mm, .inr (8, [.int mp, .int co, .int (nI n), .ref p1, .ref p2, .ref p3, .ref p4, .ref p5, .int (nI un), .ref p6, .ref p7, .ref p8, .int cm, .ref p9, .ref p10, .ref p11, .int ope, .ref p12, .ref p13, .ref p14, .ref p15, .ref p16, .ref p17, .ref p18, .ref p19, .ref p20, .ref p21, .int (nI he), .ref p22])), (p16, .inl (cL, 8, .inr (.inl (vp_updL (vp_updL (vp_updL (vp_updL (vp_updL SA 2 (SA 2)) 3 (ba - a.toInt64)) 0 ((vp_updL (vp_updL SA 2 (SA 2)) 3 (ba - a.toInt64)) 0)) 1 ((vp_updL (vp_updL (vp_updL SA 2 (SA 2)) 3 (ba - a.toInt64)) 0 ((vp_updL (vp_updL SA 2 (SA 2)) 3 (ba - a.toInt64)) 0)) 1)) 4 to))))] H := hP
      have hD : va_D zA [(mm, .inr (8, [.int mp, .int co, .int (nI n), .ref p1, .ref p2, .ref p3, .ref p4, .ref p5, .int (nI un), .ref p6, .ref p7, .ref p8, .int cm, .ref p9, .ref p10, .ref p11, .int ope, .ref p12, .ref p13, .ref p14, .ref p15, .ref p16, .ref p17, .ref p18, .ref p19, .ref p20, .ref p21, .int (nI he), .ref p22])), (p16, .inl (cL, 8, .inr (.inl (vp_updL (vp_updL (vp_updL (vp_updL (vp_updL SA 2 (SA 2)) 3 (ba - a.toInt64)) 0 ((vp_updL (vp_updL SA 2 (SA 2)) 3 (ba - a.toInt64)) 0)) 1 ((vp_updL (vp_updL (vp_updL SA 2 (SA 2)) 3 (ba - a.toInt64)) 0 ((vp_updL (vp_updL SA 2 (SA 2)) 3 (ba - a.toInt64)) 0)) 1)) 4 to))))] := hD
      refine lv_aload_n hx hb d_M_change_167 rfl (lv_at hl 1 rfl) ?_
      refine va_get (D := (dC, dI)) (ci := 8) (v := .ref p16) (C := "UpcastStreamsModel") (T := F_M) (N := 29) hx hb hts in_M hown hK hP 0 rfl rfl 21 (by decide) (hts _ uw_3_152) (fun _ h9 => h9) rfl d_M_change_168 ?_
      refine lv_iconst (v := (5 : Int32)) hx hb d_M_change_171 (by decide) ?_
      refine lv_aload_n hx hb d_M_change_172 rfl (lv_at hl 1 rfl) ?_
      refine va_get (D := (dC, dI)) (ci := 8) (v := .ref p16) (C := "UpcastStreamsModel") (T := F_M) (N := 29) hx hb hts in_M hown hK hP 0 rfl rfl 21 (by decide) (hts _ uw_3_152) (fun _ h9 => h9) rfl d_M_change_173 ?_
      refine lv_iconst (v := (5 : Int32)) hx hb d_M_change_176 (by decide) ?_
      refine us_lald (j := 5) hx hb hK hP 1 1 rfl rfl (by unfold vp_in; decide) (by decide) d_M_change_177 ?_
      refine us_topl (show ((vp_updL (vp_updL (vp_updL (vp_updL (vp_updL SA 2 (SA 2)) 3 (ba - a.toInt64)) 0 ((vp_updL (vp_updL SA 2 (SA 2)) 3 (ba - a.toInt64)) 0)) 1 ((vp_updL (vp_updL (vp_updL SA 2 (SA 2)) 3 (ba - a.toInt64)) 0 ((vp_updL (vp_updL SA 2 (SA 2)) 3 (ba - a.toInt64)) 0)) 1)) 4 to) 5) = mo from by simp [vp_updL, s5]) ?_
      refine lv_lconst (v := (1 : Int64)) hx hb d_M_change_178 (by decide) ?_
      refine lv_ladd hx hb d_M_change_179 ?_
      refine us_last (j := 5) hx hb hK hP hD hS 1 1 rfl rfl (by unfold vp_in; decide) (by decide) d_M_change_180 (fun H locs hP hD hS => ?_)
      have hP : va_P (dC, dI) vwCl [(mm, .inr (8, [.int mp, .int co, .int (nI n), .ref p1, .ref p2, .ref p3, .ref p4, .ref p5, .int (nI un), .ref p6, .ref p7, .ref p8, .int cm, .ref p9, .ref p10, .ref p11, .int ope, .ref p12, .ref p13, .ref p14, .ref p15, .ref p16, .ref p17, .ref p18, .ref p19, .ref p20, .ref p21, .int (nI he), .ref p22])), (p16, .inl (cL, 8, .inr (.inl (vp_updL (vp_updL (vp_updL (vp_updL (vp_updL (vp_updL SA 2 (SA 2)) 3 (ba - a.toInt64)) 0 ((vp_updL (vp_updL SA 2 (SA 2)) 3 (ba - a.toInt64)) 0)) 1 ((vp_updL (vp_updL (vp_updL SA 2 (SA 2)) 3 (ba - a.toInt64)) 0 ((vp_updL (vp_updL SA 2 (SA 2)) 3 (ba - a.toInt64)) 0)) 1)) 4 to) 5 (mo + (1 : Int64))))))] H := hP
      have hD : va_D zA [(mm, .inr (8, [.int mp, .int co, .int (nI n), .ref p1, .ref p2, .ref p3, .ref p4, .ref p5, .int (nI un), .ref p6, .ref p7, .ref p8, .int cm, .ref p9, .ref p10, .ref p11, .int ope, .ref p12, .ref p13, .ref p14, .ref p15, .ref p16, .ref p17, .ref p18, .ref p19, .ref p20, .ref p21, .int (nI he), .ref p22])), (p16, .inl (cL, 8, .inr (.inl (vp_updL (vp_updL (vp_updL (vp_updL (vp_updL (vp_updL SA 2 (SA 2)) 3 (ba - a.toInt64)) 0 ((vp_updL (vp_updL SA 2 (SA 2)) 3 (ba - a.toInt64)) 0)) 1 ((vp_updL (vp_updL (vp_updL SA 2 (SA 2)) 3 (ba - a.toInt64)) 0 ((vp_updL (vp_updL SA 2 (SA 2)) 3 (ba - a.toInt64)) 0)) 1)) 4 to) 5 (mo + (1 : Int64))))))] := hD
      refine lv_aload_n hx hb d_M_change_181 rfl (lv_at hl 1 rfl) ?_
      refine va_get (D := (dC, dI)) (ci := 8) (v := .ref p16) (C := "UpcastStreamsModel") (T := F_M) (N := 29) hx hb hts in_M hown hK hP 0 rfl rfl 21 (by decide) (hts _ uw_3_152) (fun _ h9 => h9) rfl d_M_change_182 ?_
      refine lv_bipush (v := (7 : Int32)) hx hb d_M_change_185 (by decide) ?_
      refine lv_aload_n hx hb d_M_change_187 rfl (lv_at hl 1 rfl) ?_
      refine va_get (D := (dC, dI)) (ci := 8) (v := .ref p16) (C := "UpcastStreamsModel") (T := F_M) (N := 29) hx hb hts in_M hown hK hP 0 rfl rfl 21 (by decide) (hts _ uw_3_152) (fun _ h9 => h9) rfl d_M_change_188 ?_
      refine lv_bipush (v := (7 : Int32)) hx hb d_M_change_191 (by decide) ?_
      refine us_lald (j := 7) hx hb hK hP 1 1 rfl rfl (by unfold vp_in; decide) (by decide) d_M_change_193 ?_
      refine us_topl (show ((vp_updL (vp_updL (vp_updL (vp_updL (vp_updL (vp_updL SA 2 (SA 2)) 3 (ba - a.toInt64)) 0 ((vp_updL (vp_updL SA 2 (SA 2)) 3 (ba - a.toInt64)) 0)) 1 ((vp_updL (vp_updL (vp_updL SA 2 (SA 2)) 3 (ba - a.toInt64)) 0 ((vp_updL (vp_updL SA 2 (SA 2)) 3 (ba - a.toInt64)) 0)) 1)) 4 to) 5 (mo + (1 : Int64))) 7) = ch from by simp [vp_updL, s7]) ?_
      refine lv_ldc2 (v := (31 : Int64)) hx hb hown (hts _ uw_4_38) d_M_change_194 ?_
      refine lv_lmul hx hb d_M_change_197 ?_
      refine lv_iload_n hx hb d_M_change_198 rfl (lv_at hl 2 rfl) ?_
      refine lv_i2l (v := (nI 2).toInt64) hx hb d_M_change_199 rfl ?_
      refine lv_ladd hx hb d_M_change_200 ?_
      refine lv_ldc2 (v := (7 : Int64)) hx hb hown (hts _ uw_4_39) d_M_change_201 ?_
      refine lv_iload_n hx hb d_M_change_204 rfl (lv_at hl 3 rfl) ?_
      refine lv_i2l (v := a.toInt64) hx hb d_M_change_205 rfl ?_
      refine lv_lmul hx hb d_M_change_206 ?_
      refine lv_ladd hx hb d_M_change_207 ?_
      refine lv_iload_n hx hb d_M_change_208 rfl (lv_at hl 4 rfl) ?_
      refine lv_i2l (v := b.toInt64) hx hb d_M_change_209 rfl ?_
      refine lv_lxor hx hb d_M_change_210 ?_
      refine us_last (j := 7) hx hb hK hP hD hS 1 1 rfl rfl (by unfold vp_in; decide) (by decide) d_M_change_211 (fun H locs hP hD hS => ?_)
      have hP : va_P (dC, dI) vwCl [(mm, .inr (8, [.int mp, .int co, .int (nI n), .ref p1, .ref p2, .ref p3, .ref p4, .ref p5, .int (nI un), .ref p6, .ref p7, .ref p8, .int cm, .ref p9, .ref p10, .ref p11, .int ope, .ref p12, .ref p13, .ref p14, .ref p15, .ref p16, .ref p17, .ref p18, .ref p19, .ref p20, .ref p21, .int (nI he), .ref p22])), (p16, .inl (cL, 8, .inr (.inl (vp_updL (vp_updL (vp_updL (vp_updL (vp_updL (vp_updL (vp_updL SA 2 (SA 2)) 3 (ba - a.toInt64)) 0 ((vp_updL (vp_updL SA 2 (SA 2)) 3 (ba - a.toInt64)) 0)) 1 ((vp_updL (vp_updL (vp_updL SA 2 (SA 2)) 3 (ba - a.toInt64)) 0 ((vp_updL (vp_updL SA 2 (SA 2)) 3 (ba - a.toInt64)) 0)) 1)) 4 to) 5 (mo + (1 : Int64))) 7 ((((ch * (31 : Int64)) + ((nI 2).toInt64)) + ((7 : Int64) * a.toInt64)) ^^^ b.toInt64)))))] H := hP
      have hD : va_D zA [(mm, .inr (8, [.int mp, .int co, .int (nI n), .ref p1, .ref p2, .ref p3, .ref p4, .ref p5, .int (nI un), .ref p6, .ref p7, .ref p8, .int cm, .ref p9, .ref p10, .ref p11, .int ope, .ref p12, .ref p13, .ref p14, .ref p15, .ref p16, .ref p17, .ref p18, .ref p19, .ref p20, .ref p21, .int (nI he), .ref p22])), (p16, .inl (cL, 8, .inr (.inl (vp_updL (vp_updL (vp_updL (vp_updL (vp_updL (vp_updL (vp_updL SA 2 (SA 2)) 3 (ba - a.toInt64)) 0 ((vp_updL (vp_updL SA 2 (SA 2)) 3 (ba - a.toInt64)) 0)) 1 ((vp_updL (vp_updL (vp_updL SA 2 (SA 2)) 3 (ba - a.toInt64)) 0 ((vp_updL (vp_updL SA 2 (SA 2)) 3 (ba - a.toInt64)) 0)) 1)) 4 to) 5 (mo + (1 : Int64))) 7 ((((ch * (31 : Int64)) + ((nI 2).toInt64)) + ((7 : Int64) * a.toInt64)) ^^^ b.toInt64)))))] := hD
      exact us_vret hQ (by decide) (by decide) hx hb hr hlk hK hS (vp_updL (vp_updL (vp_updL (vp_updL (vp_updL (vp_updL (vp_updL SA 2 (SA 2)) 3 (ba - a.toInt64)) 0 ((vp_updL (vp_updL SA 2 (SA 2)) 3 (ba - a.toInt64)) 0)) 1 ((vp_updL (vp_updL (vp_updL SA 2 (SA 2)) 3 (ba - a.toInt64)) 0 ((vp_updL (vp_updL SA 2 (SA 2)) 3 (ba - a.toInt64)) 0)) 1)) 4 to) 5 (mo + (1 : Int64))) 7 ((((ch * (31 : Int64)) + ((nI 2).toInt64)) + ((7 : Int64) * a.toInt64)) ^^^ b.toInt64)) rfl (by first | (have cz := us_mx1 cx; refine ⟨?_, ?_, ?_, ?_, ?_, ?_, ?_, ?_⟩ <;> simp [us_chg, us_cnt, vp_updL, us_bl, s0, s1, s2, s3, s4, s5, s6, s7, cz]; done) | (have cz := us_mx2 cx; refine ⟨?_, ?_, ?_, ?_, ?_, ?_, ?_, ?_⟩ <;> simp [us_chg, us_cnt, vp_updL, us_bl, s0, s1, s2, s3, s4, s5, s6, s7, cz]; done)) hP hD d_M_change_212
    · refine lv_aload_n hx hb d_M_change_151 rfl (lv_at hl 1 rfl) ?_
      refine va_get (D := (dC, dI)) (ci := 8) (v := .ref p16) (C := "UpcastStreamsModel") (T := F_M) (N := 29) hx hb hts in_M hown hK hP 0 rfl rfl 21 (by decide) (hts _ uw_3_152) (fun _ h9 => h9) rfl d_M_change_152 ?_
      refine lv_iconst (v := (3 : Int32)) hx hb d_M_change_155 (by decide) ?_
      refine us_lald (j := 3) hx hb hK hP 1 1 rfl rfl (by unfold vp_in; decide) (by decide) d_M_change_156 ?_
      refine us_topl (show ((vp_updL (vp_updL (vp_updL (vp_updL SA 2 (SA 2)) 3 (ba - a.toInt64)) 0 ((vp_updL (vp_updL SA 2 (SA 2)) 3 (ba - a.toInt64)) 0)) 1 ((vp_updL (vp_updL (vp_updL SA 2 (SA 2)) 3 (ba - a.toInt64)) 0 ((vp_updL (vp_updL SA 2 (SA 2)) 3 (ba - a.toInt64)) 0)) 1)) 3) = (ba - a.toInt64) from by simp [vp_updL, s3]) ?_
      refine lv_goto (tgt := 166) hx hb d_M_change_157 (by decide) ?_
      refine us_last (j := 4) hx hb hK hP hD hS 1 1 rfl rfl (by unfold vp_in; decide) (by decide) d_M_change_166 (fun H locs hP hD hS => ?_)
      have hP : va_P (dC, dI) vwCl [(mm, .inr (8, [.int mp, .int co, .int (nI n), .ref p1, .ref p2, .ref p3, .ref p4, .ref p5, .int (nI un), .ref p6, .ref p7, .ref p8, .int cm, .ref p9, .ref p10, .ref p11, .int ope, .ref p12, .ref p13, .ref p14, .ref p15, .ref p16, .ref p17, .ref p18, .ref p19, .ref p20, .ref p21, .int (nI he), .ref p22])), (p16, .inl (cL, 8, .inr (.inl (vp_updL (vp_updL (vp_updL (vp_updL (vp_updL SA 2 (SA 2)) 3 (ba - a.toInt64)) 0 ((vp_updL (vp_updL SA 2 (SA 2)) 3 (ba - a.toInt64)) 0)) 1 ((vp_updL (vp_updL (vp_updL SA 2 (SA 2)) 3 (ba - a.toInt64)) 0 ((vp_updL (vp_updL SA 2 (SA 2)) 3 (ba - a.toInt64)) 0)) 1)) 4 (ba - a.toInt64)))))] H := hP
      have hD : va_D zA [(mm, .inr (8, [.int mp, .int co, .int (nI n), .ref p1, .ref p2, .ref p3, .ref p4, .ref p5, .int (nI un), .ref p6, .ref p7, .ref p8, .int cm, .ref p9, .ref p10, .ref p11, .int ope, .ref p12, .ref p13, .ref p14, .ref p15, .ref p16, .ref p17, .ref p18, .ref p19, .ref p20, .ref p21, .int (nI he), .ref p22])), (p16, .inl (cL, 8, .inr (.inl (vp_updL (vp_updL (vp_updL (vp_updL (vp_updL SA 2 (SA 2)) 3 (ba - a.toInt64)) 0 ((vp_updL (vp_updL SA 2 (SA 2)) 3 (ba - a.toInt64)) 0)) 1 ((vp_updL (vp_updL (vp_updL SA 2 (SA 2)) 3 (ba - a.toInt64)) 0 ((vp_updL (vp_updL SA 2 (SA 2)) 3 (ba - a.toInt64)) 0)) 1)) 4 (ba - a.toInt64)))))] := hD
      refine lv_aload_n hx hb d_M_change_167 rfl (lv_at hl 1 rfl) ?_
      refine va_get (D := (dC, dI)) (ci := 8) (v := .ref p16) (C := "UpcastStreamsModel") (T := F_M) (N := 29) hx hb hts in_M hown hK hP 0 rfl rfl 21 (by decide) (hts _ uw_3_152) (fun _ h9 => h9) rfl d_M_change_168 ?_
      refine lv_iconst (v := (5 : Int32)) hx hb d_M_change_171 (by decide) ?_
      refine lv_aload_n hx hb d_M_change_172 rfl (lv_at hl 1 rfl) ?_
      refine va_get (D := (dC, dI)) (ci := 8) (v := .ref p16) (C := "UpcastStreamsModel") (T := F_M) (N := 29) hx hb hts in_M hown hK hP 0 rfl rfl 21 (by decide) (hts _ uw_3_152) (fun _ h9 => h9) rfl d_M_change_173 ?_
      refine lv_iconst (v := (5 : Int32)) hx hb d_M_change_176 (by decide) ?_
      refine us_lald (j := 5) hx hb hK hP 1 1 rfl rfl (by unfold vp_in; decide) (by decide) d_M_change_177 ?_
      refine us_topl (show ((vp_updL (vp_updL (vp_updL (vp_updL (vp_updL SA 2 (SA 2)) 3 (ba - a.toInt64)) 0 ((vp_updL (vp_updL SA 2 (SA 2)) 3 (ba - a.toInt64)) 0)) 1 ((vp_updL (vp_updL (vp_updL SA 2 (SA 2)) 3 (ba - a.toInt64)) 0 ((vp_updL (vp_updL SA 2 (SA 2)) 3 (ba - a.toInt64)) 0)) 1)) 4 (ba - a.toInt64)) 5) = mo from by simp [vp_updL, s5]) ?_
      refine lv_lconst (v := (1 : Int64)) hx hb d_M_change_178 (by decide) ?_
      refine lv_ladd hx hb d_M_change_179 ?_
      refine us_last (j := 5) hx hb hK hP hD hS 1 1 rfl rfl (by unfold vp_in; decide) (by decide) d_M_change_180 (fun H locs hP hD hS => ?_)
      have hP : va_P (dC, dI) vwCl [(mm, .inr (8, [.int mp, .int co, .int (nI n), .ref p1, .ref p2, .ref p3, .ref p4, .ref p5, .int (nI un), .ref p6, .ref p7, .ref p8, .int cm, .ref p9, .ref p10, .ref p11, .int ope, .ref p12, .ref p13, .ref p14, .ref p15, .ref p16, .ref p17, .ref p18, .ref p19, .ref p20, .ref p21, .int (nI he), .ref p22])), (p16, .inl (cL, 8, .inr (.inl (vp_updL (vp_updL (vp_updL (vp_updL (vp_updL (vp_updL SA 2 (SA 2)) 3 (ba - a.toInt64)) 0 ((vp_updL (vp_updL SA 2 (SA 2)) 3 (ba - a.toInt64)) 0)) 1 ((vp_updL (vp_updL (vp_updL SA 2 (SA 2)) 3 (ba - a.toInt64)) 0 ((vp_updL (vp_updL SA 2 (SA 2)) 3 (ba - a.toInt64)) 0)) 1)) 4 (ba - a.toInt64)) 5 (mo + (1 : Int64))))))] H := hP
      have hD : va_D zA [(mm, .inr (8, [.int mp, .int co, .int (nI n), .ref p1, .ref p2, .ref p3, .ref p4, .ref p5, .int (nI un), .ref p6, .ref p7, .ref p8, .int cm, .ref p9, .ref p10, .ref p11, .int ope, .ref p12, .ref p13, .ref p14, .ref p15, .ref p16, .ref p17, .ref p18, .ref p19, .ref p20, .ref p21, .int (nI he), .ref p22])), (p16, .inl (cL, 8, .inr (.inl (vp_updL (vp_updL (vp_updL (vp_updL (vp_updL (vp_updL SA 2 (SA 2)) 3 (ba - a.toInt64)) 0 ((vp_updL (vp_updL SA 2 (SA 2)) 3 (ba - a.toInt64)) 0)) 1 ((vp_updL (vp_updL (vp_updL SA 2 (SA 2)) 3 (ba - a.toInt64)) 0 ((vp_updL (vp_updL SA 2 (SA 2)) 3 (ba - a.toInt64)) 0)) 1)) 4 (ba - a.toInt64)) 5 (mo + (1 : Int64))))))] := hD
      refine lv_aload_n hx hb d_M_change_181 rfl (lv_at hl 1 rfl) ?_
      refine va_get (D := (dC, dI)) (ci := 8) (v := .ref p16) (C := "UpcastStreamsModel") (T := F_M) (N := 29) hx hb hts in_M hown hK hP 0 rfl rfl 21 (by decide) (hts _ uw_3_152) (fun _ h9 => h9) rfl d_M_change_182 ?_
      refine lv_bipush (v := (7 : Int32)) hx hb d_M_change_185 (by decide) ?_
      refine lv_aload_n hx hb d_M_change_187 rfl (lv_at hl 1 rfl) ?_
      refine va_get (D := (dC, dI)) (ci := 8) (v := .ref p16) (C := "UpcastStreamsModel") (T := F_M) (N := 29) hx hb hts in_M hown hK hP 0 rfl rfl 21 (by decide) (hts _ uw_3_152) (fun _ h9 => h9) rfl d_M_change_188 ?_
      refine lv_bipush (v := (7 : Int32)) hx hb d_M_change_191 (by decide) ?_
      refine us_lald (j := 7) hx hb hK hP 1 1 rfl rfl (by unfold vp_in; decide) (by decide) d_M_change_193 ?_
      refine us_topl (show ((vp_updL (vp_updL (vp_updL (vp_updL (vp_updL (vp_updL SA 2 (SA 2)) 3 (ba - a.toInt64)) 0 ((vp_updL (vp_updL SA 2 (SA 2)) 3 (ba - a.toInt64)) 0)) 1 ((vp_updL (vp_updL (vp_updL SA 2 (SA 2)) 3 (ba - a.toInt64)) 0 ((vp_updL (vp_updL SA 2 (SA 2)) 3 (ba - a.toInt64)) 0)) 1)) 4 (ba - a.toInt64)) 5 (mo + (1 : Int64))) 7) = ch from by simp [vp_updL, s7]) ?_
      refine lv_ldc2 (v := (31 : Int64)) hx hb hown (hts _ uw_4_38) d_M_change_194 ?_
      refine lv_lmul hx hb d_M_change_197 ?_
      refine lv_iload_n hx hb d_M_change_198 rfl (lv_at hl 2 rfl) ?_
      refine lv_i2l (v := (nI 2).toInt64) hx hb d_M_change_199 rfl ?_
      refine lv_ladd hx hb d_M_change_200 ?_
      refine lv_ldc2 (v := (7 : Int64)) hx hb hown (hts _ uw_4_39) d_M_change_201 ?_
      refine lv_iload_n hx hb d_M_change_204 rfl (lv_at hl 3 rfl) ?_
      refine lv_i2l (v := a.toInt64) hx hb d_M_change_205 rfl ?_
      refine lv_lmul hx hb d_M_change_206 ?_
      refine lv_ladd hx hb d_M_change_207 ?_
      refine lv_iload_n hx hb d_M_change_208 rfl (lv_at hl 4 rfl) ?_
      refine lv_i2l (v := b.toInt64) hx hb d_M_change_209 rfl ?_
      refine lv_lxor hx hb d_M_change_210 ?_
      refine us_last (j := 7) hx hb hK hP hD hS 1 1 rfl rfl (by unfold vp_in; decide) (by decide) d_M_change_211 (fun H locs hP hD hS => ?_)
      have hP : va_P (dC, dI) vwCl [(mm, .inr (8, [.int mp, .int co, .int (nI n), .ref p1, .ref p2, .ref p3, .ref p4, .ref p5, .int (nI un), .ref p6, .ref p7, .ref p8, .int cm, .ref p9, .ref p10, .ref p11, .int ope, .ref p12, .ref p13, .ref p14, .ref p15, .ref p16, .ref p17, .ref p18, .ref p19, .ref p20, .ref p21, .int (nI he), .ref p22])), (p16, .inl (cL, 8, .inr (.inl (vp_updL (vp_updL (vp_updL (vp_updL (vp_updL (vp_updL (vp_updL SA 2 (SA 2)) 3 (ba - a.toInt64)) 0 ((vp_updL (vp_updL SA 2 (SA 2)) 3 (ba - a.toInt64)) 0)) 1 ((vp_updL (vp_updL (vp_updL SA 2 (SA 2)) 3 (ba - a.toInt64)) 0 ((vp_updL (vp_updL SA 2 (SA 2)) 3 (ba - a.toInt64)) 0)) 1)) 4 (ba - a.toInt64)) 5 (mo + (1 : Int64))) 7 ((((ch * (31 : Int64)) + ((nI 2).toInt64)) + ((7 : Int64) * a.toInt64)) ^^^ b.toInt64)))))] H := hP
      have hD : va_D zA [(mm, .inr (8, [.int mp, .int co, .int (nI n), .ref p1, .ref p2, .ref p3, .ref p4, .ref p5, .int (nI un), .ref p6, .ref p7, .ref p8, .int cm, .ref p9, .ref p10, .ref p11, .int ope, .ref p12, .ref p13, .ref p14, .ref p15, .ref p16, .ref p17, .ref p18, .ref p19, .ref p20, .ref p21, .int (nI he), .ref p22])), (p16, .inl (cL, 8, .inr (.inl (vp_updL (vp_updL (vp_updL (vp_updL (vp_updL (vp_updL (vp_updL SA 2 (SA 2)) 3 (ba - a.toInt64)) 0 ((vp_updL (vp_updL SA 2 (SA 2)) 3 (ba - a.toInt64)) 0)) 1 ((vp_updL (vp_updL (vp_updL SA 2 (SA 2)) 3 (ba - a.toInt64)) 0 ((vp_updL (vp_updL SA 2 (SA 2)) 3 (ba - a.toInt64)) 0)) 1)) 4 (ba - a.toInt64)) 5 (mo + (1 : Int64))) 7 ((((ch * (31 : Int64)) + ((nI 2).toInt64)) + ((7 : Int64) * a.toInt64)) ^^^ b.toInt64)))))] := hD
      exact us_vret hQ (by decide) (by decide) hx hb hr hlk hK hS (vp_updL (vp_updL (vp_updL (vp_updL (vp_updL (vp_updL (vp_updL SA 2 (SA 2)) 3 (ba - a.toInt64)) 0 ((vp_updL (vp_updL SA 2 (SA 2)) 3 (ba - a.toInt64)) 0)) 1 ((vp_updL (vp_updL (vp_updL SA 2 (SA 2)) 3 (ba - a.toInt64)) 0 ((vp_updL (vp_updL SA 2 (SA 2)) 3 (ba - a.toInt64)) 0)) 1)) 4 (ba - a.toInt64)) 5 (mo + (1 : Int64))) 7 ((((ch * (31 : Int64)) + ((nI 2).toInt64)) + ((7 : Int64) * a.toInt64)) ^^^ b.toInt64)) rfl (by first | (have cz := us_mx1 cx; refine ⟨?_, ?_, ?_, ?_, ?_, ?_, ?_, ?_⟩ <;> simp [us_chg, us_cnt, vp_updL, us_bl, s0, s1, s2, s3, s4, s5, s6, s7, cz]; done) | (have cz := us_mx2 cx; refine ⟨?_, ?_, ?_, ?_, ?_, ?_, ?_, ?_⟩ <;> simp [us_chg, us_cnt, vp_updL, us_bl, s0, s1, s2, s3, s4, s5, s6, s7, cz]; done)) hP hD d_M_change_212
  · refine lv_aload_n hx hb d_M_change_0 rfl (lv_at hl 0 rfl) ?_
    refine va_get (D := (dC, dI)) (ci := 8) (v := .ref p16) (C := "UpcastStreamsModel") (T := F_M) (N := 29) hx hb hts in_M hown hK hP 0 rfl rfl 21 (by decide) (hts _ uw_3_152) (fun _ h9 => h9) rfl d_M_change_1 ?_
    refine lv_iconst (v := (3 : Int32)) hx hb d_M_change_4 (by decide) ?_
    refine us_lald (j := 3) hx hb hK hP 1 1 rfl rfl (by unfold vp_in; decide) (by decide) d_M_change_5 ?_
    refine us_topl (show (SA 3) = ba from s3) ?_
    refine lv_lstore (lv' := [(4, .long ba), (0, .ref mm), (1, .int (nI 3)), (2, .int a), (3, .int b)]) hx hb d_M_change_6 hl (by decide) rfl (fun ls hl => ?_)
    refine lv_aload_n hx hb d_M_change_8 rfl (lv_at hl 1 rfl) ?_
    refine va_get (D := (dC, dI)) (ci := 8) (v := .ref p16) (C := "UpcastStreamsModel") (T := F_M) (N := 29) hx hb hts in_M hown hK hP 0 rfl rfl 21 (by decide) (hts _ uw_3_152) (fun _ h9 => h9) rfl d_M_change_9 ?_
    refine lv_iconst (v := (2 : Int32)) hx hb d_M_change_12 (by decide) ?_
    refine lv_iload_n hx hb d_M_change_13 rfl (lv_at hl 2 rfl) ?_
    refine lv_if_ne (tgt := 22) hx hb d_M_change_14 (by decide) (fun c24 => ?_) (fun h => absurd h (by decide))
    refine lv_aload_n hx hb d_M_change_22 rfl (lv_at hl 1 rfl) ?_
    refine va_get (D := (dC, dI)) (ci := 8) (v := .ref p16) (C := "UpcastStreamsModel") (T := F_M) (N := 29) hx hb hts in_M hown hK hP 0 rfl rfl 21 (by decide) (hts _ uw_3_152) (fun _ h9 => h9) rfl d_M_change_23 ?_
    refine lv_iconst (v := (2 : Int32)) hx hb d_M_change_26 (by decide) ?_
    refine us_lald (j := 2) hx hb hK hP 1 1 rfl rfl (by unfold vp_in; decide) (by decide) d_M_change_27 ?_
    refine us_last (j := 2) hx hb hK hP hD hS 1 1 rfl rfl (by unfold vp_in; decide) (by decide) d_M_change_28 (fun H locs hP hD hS => ?_)
    have hP : va_P (dC, dI) vwCl [(mm, .inr (8, [.int mp, .int co, .int (nI n), .ref p1, .ref p2, .ref p3, .ref p4, .ref p5, .int (nI un), .ref p6, .ref p7, .ref p8, .int cm, .ref p9, .ref p10, .ref p11, .int ope, .ref p12, .ref p13, .ref p14, .ref p15, .ref p16, .ref p17, .ref p18, .ref p19, .ref p20, .ref p21, .int (nI he), .ref p22])), (p16, .inl (cL, 8, .inr (.inl (vp_updL SA 2 (SA 2)))))] H := hP
    have hD : va_D zA [(mm, .inr (8, [.int mp, .int co, .int (nI n), .ref p1, .ref p2, .ref p3, .ref p4, .ref p5, .int (nI un), .ref p6, .ref p7, .ref p8, .int cm, .ref p9, .ref p10, .ref p11, .int ope, .ref p12, .ref p13, .ref p14, .ref p15, .ref p16, .ref p17, .ref p18, .ref p19, .ref p20, .ref p21, .int (nI he), .ref p22])), (p16, .inl (cL, 8, .inr (.inl (vp_updL SA 2 (SA 2)))))] := hD
    refine lv_aload_n hx hb d_M_change_29 rfl (lv_at hl 1 rfl) ?_
    refine va_get (D := (dC, dI)) (ci := 8) (v := .ref p16) (C := "UpcastStreamsModel") (T := F_M) (N := 29) hx hb hts in_M hown hK hP 0 rfl rfl 21 (by decide) (hts _ uw_3_152) (fun _ h9 => h9) rfl d_M_change_30 ?_
    refine lv_iconst (v := (3 : Int32)) hx hb d_M_change_33 (by decide) ?_
    refine lv_iload_n hx hb d_M_change_34 rfl (lv_at hl 2 rfl) ?_
    refine lv_if_ne (tgt := 42) hx hb d_M_change_35 (by decide) (fun c25 => ?_) (fun h => absurd h (by decide))
    refine lv_iload_n hx hb d_M_change_42 rfl (lv_at hl 2 rfl) ?_
    refine lv_iconst (v := (1 : Int32)) hx hb d_M_change_43 (by decide) ?_
    refine lv_icmp_ne (tgt := 55) hx hb d_M_change_44 (by decide) (fun c26 => ?_) (fun h => absurd h (by decide))
    refine lv_iload_n hx hb d_M_change_55 rfl (lv_at hl 2 rfl) ?_
    refine lv_iconst (v := (2 : Int32)) hx hb d_M_change_56 (by decide) ?_
    refine lv_icmp_ne (tgt := 68) hx hb d_M_change_57 (by decide) (fun c27 => ?_) (fun h => absurd h (by decide))
    refine lv_lload hx hb d_M_change_68 (lv_at hl 0 rfl) ?_
    refine us_last (j := 3) hx hb hK hP hD hS 1 1 rfl rfl (by unfold vp_in; decide) (by decide) d_M_change_70 (fun H locs hP hD hS => ?_)
    have hP : va_P (dC, dI) vwCl [(mm, .inr (8, [.int mp, .int co, .int (nI n), .ref p1, .ref p2, .ref p3, .ref p4, .ref p5, .int (nI un), .ref p6, .ref p7, .ref p8, .int cm, .ref p9, .ref p10, .ref p11, .int ope, .ref p12, .ref p13, .ref p14, .ref p15, .ref p16, .ref p17, .ref p18, .ref p19, .ref p20, .ref p21, .int (nI he), .ref p22])), (p16, .inl (cL, 8, .inr (.inl (vp_updL (vp_updL SA 2 (SA 2)) 3 ba))))] H := hP
    have hD : va_D zA [(mm, .inr (8, [.int mp, .int co, .int (nI n), .ref p1, .ref p2, .ref p3, .ref p4, .ref p5, .int (nI un), .ref p6, .ref p7, .ref p8, .int cm, .ref p9, .ref p10, .ref p11, .int ope, .ref p12, .ref p13, .ref p14, .ref p15, .ref p16, .ref p17, .ref p18, .ref p19, .ref p20, .ref p21, .int (nI he), .ref p22])), (p16, .inl (cL, 8, .inr (.inl (vp_updL (vp_updL SA 2 (SA 2)) 3 ba))))] := hD
    refine lv_aload_n hx hb d_M_change_71 rfl (lv_at hl 1 rfl) ?_
    refine va_get (D := (dC, dI)) (ci := 8) (v := .ref p16) (C := "UpcastStreamsModel") (T := F_M) (N := 29) hx hb hts in_M hown hK hP 0 rfl rfl 21 (by decide) (hts _ uw_3_152) (fun _ h9 => h9) rfl d_M_change_72 ?_
    refine lv_iconst (v := (0 : Int32)) hx hb d_M_change_75 (by decide) ?_
    refine lv_iload_n hx hb d_M_change_76 rfl (lv_at hl 2 rfl) ?_
    refine lv_if_ne (tgt := 84) hx hb d_M_change_77 (by decide) (fun c28 => ?_) (fun h => absurd h (by decide))
    refine lv_iload_n hx hb d_M_change_84 rfl (lv_at hl 2 rfl) ?_
    refine lv_iconst (v := (5 : Int32)) hx hb d_M_change_85 (by decide) ?_
    refine lv_icmp_ne (tgt := 93) hx hb d_M_change_86 (by decide) (fun c29 => ?_) (fun h => absurd h (by decide))
    refine lv_aload_n hx hb d_M_change_93 rfl (lv_at hl 1 rfl) ?_
    refine va_get (D := (dC, dI)) (ci := 8) (v := .ref p16) (C := "UpcastStreamsModel") (T := F_M) (N := 29) hx hb hts in_M hown hK hP 0 rfl rfl 21 (by decide) (hts _ uw_3_152) (fun _ h9 => h9) rfl d_M_change_94 ?_
    refine lv_iconst (v := (0 : Int32)) hx hb d_M_change_97 (by decide) ?_
    refine us_lald (j := 0) hx hb hK hP 1 1 rfl rfl (by unfold vp_in; decide) (by decide) d_M_change_98 ?_
    refine us_last (j := 0) hx hb hK hP hD hS 1 1 rfl rfl (by unfold vp_in; decide) (by decide) d_M_change_99 (fun H locs hP hD hS => ?_)
    have hP : va_P (dC, dI) vwCl [(mm, .inr (8, [.int mp, .int co, .int (nI n), .ref p1, .ref p2, .ref p3, .ref p4, .ref p5, .int (nI un), .ref p6, .ref p7, .ref p8, .int cm, .ref p9, .ref p10, .ref p11, .int ope, .ref p12, .ref p13, .ref p14, .ref p15, .ref p16, .ref p17, .ref p18, .ref p19, .ref p20, .ref p21, .int (nI he), .ref p22])), (p16, .inl (cL, 8, .inr (.inl (vp_updL (vp_updL (vp_updL SA 2 (SA 2)) 3 ba) 0 ((vp_updL (vp_updL SA 2 (SA 2)) 3 ba) 0)))))] H := hP
    have hD : va_D zA [(mm, .inr (8, [.int mp, .int co, .int (nI n), .ref p1, .ref p2, .ref p3, .ref p4, .ref p5, .int (nI un), .ref p6, .ref p7, .ref p8, .int cm, .ref p9, .ref p10, .ref p11, .int ope, .ref p12, .ref p13, .ref p14, .ref p15, .ref p16, .ref p17, .ref p18, .ref p19, .ref p20, .ref p21, .int (nI he), .ref p22])), (p16, .inl (cL, 8, .inr (.inl (vp_updL (vp_updL (vp_updL SA 2 (SA 2)) 3 ba) 0 ((vp_updL (vp_updL SA 2 (SA 2)) 3 ba) 0)))))] := hD
    refine lv_aload_n hx hb d_M_change_100 rfl (lv_at hl 1 rfl) ?_
    refine va_get (D := (dC, dI)) (ci := 8) (v := .ref p16) (C := "UpcastStreamsModel") (T := F_M) (N := 29) hx hb hts in_M hown hK hP 0 rfl rfl 21 (by decide) (hts _ uw_3_152) (fun _ h9 => h9) rfl d_M_change_101 ?_
    refine lv_iconst (v := (1 : Int32)) hx hb d_M_change_104 (by decide) ?_
    refine lv_iload_n hx hb d_M_change_105 rfl (lv_at hl 2 rfl) ?_
    refine lv_iconst (v := (3 : Int32)) hx hb d_M_change_106 (by decide) ?_
    refine lv_icmp_ne (tgt := 114) hx hb d_M_change_107 (by decide) (fun h => absurd h (by decide)) (fun c30 => ?_)
    refine lv_lconst (v := (1 : Int64)) hx hb d_M_change_110 (by decide) ?_
    refine lv_goto (tgt := 129) hx hb d_M_change_111 (by decide) ?_
    refine us_last (j := 1) hx hb hK hP hD hS 1 1 rfl rfl (by unfold vp_in; decide) (by decide) d_M_change_129 (fun H locs hP hD hS => ?_)
    have hP : va_P (dC, dI) vwCl [(mm, .inr (8, [.int mp, .int co, .int (nI n), .ref p1, .ref p2, .ref p3, .ref p4, .ref p5, .int (nI un), .ref p6, .ref p7, .ref p8, .int cm, .ref p9, .ref p10, .ref p11, .int ope, .ref p12, .ref p13, .ref p14, .ref p15, .ref p16, .ref p17, .ref p18, .ref p19, .ref p20, .ref p21, .int (nI he), .ref p22])), (p16, .inl (cL, 8, .inr (.inl (vp_updL (vp_updL (vp_updL (vp_updL SA 2 (SA 2)) 3 ba) 0 ((vp_updL (vp_updL SA 2 (SA 2)) 3 ba) 0)) 1 (1 : Int64)))))] H := hP
    have hD : va_D zA [(mm, .inr (8, [.int mp, .int co, .int (nI n), .ref p1, .ref p2, .ref p3, .ref p4, .ref p5, .int (nI un), .ref p6, .ref p7, .ref p8, .int cm, .ref p9, .ref p10, .ref p11, .int ope, .ref p12, .ref p13, .ref p14, .ref p15, .ref p16, .ref p17, .ref p18, .ref p19, .ref p20, .ref p21, .int (nI he), .ref p22])), (p16, .inl (cL, 8, .inr (.inl (vp_updL (vp_updL (vp_updL (vp_updL SA 2 (SA 2)) 3 ba) 0 ((vp_updL (vp_updL SA 2 (SA 2)) 3 ba) 0)) 1 (1 : Int64)))))] := hD
    refine lv_aload_n hx hb d_M_change_130 rfl (lv_at hl 1 rfl) ?_
    refine va_get (D := (dC, dI)) (ci := 8) (v := .ref p16) (C := "UpcastStreamsModel") (T := F_M) (N := 29) hx hb hts in_M hown hK hP 0 rfl rfl 21 (by decide) (hts _ uw_3_152) (fun _ h9 => h9) rfl d_M_change_131 ?_
    refine lv_iconst (v := (4 : Int32)) hx hb d_M_change_134 (by decide) ?_
    refine lv_aload_n hx hb d_M_change_135 rfl (lv_at hl 1 rfl) ?_
    refine va_get (D := (dC, dI)) (ci := 8) (v := .ref p16) (C := "UpcastStreamsModel") (T := F_M) (N := 29) hx hb hts in_M hown hK hP 0 rfl rfl 21 (by decide) (hts _ uw_3_152) (fun _ h9 => h9) rfl d_M_change_136 ?_
    refine lv_iconst (v := (3 : Int32)) hx hb d_M_change_139 (by decide) ?_
    refine us_lald (j := 3) hx hb hK hP 1 1 rfl rfl (by unfold vp_in; decide) (by decide) d_M_change_140 ?_
    refine us_topl (show ((vp_updL (vp_updL (vp_updL (vp_updL SA 2 (SA 2)) 3 ba) 0 ((vp_updL (vp_updL SA 2 (SA 2)) 3 ba) 0)) 1 (1 : Int64)) 3) = ba from by simp [vp_updL, s3]) ?_
    refine lv_aload_n hx hb d_M_change_141 rfl (lv_at hl 1 rfl) ?_
    refine va_get (D := (dC, dI)) (ci := 8) (v := .ref p16) (C := "UpcastStreamsModel") (T := F_M) (N := 29) hx hb hts in_M hown hK hP 0 rfl rfl 21 (by decide) (hts _ uw_3_152) (fun _ h9 => h9) rfl d_M_change_142 ?_
    refine lv_iconst (v := (4 : Int32)) hx hb d_M_change_145 (by decide) ?_
    refine us_lald (j := 4) hx hb hK hP 1 1 rfl rfl (by unfold vp_in; decide) (by decide) d_M_change_146 ?_
    refine us_topl (show ((vp_updL (vp_updL (vp_updL (vp_updL SA 2 (SA 2)) 3 ba) 0 ((vp_updL (vp_updL SA 2 (SA 2)) 3 ba) 0)) 1 (1 : Int64)) 4) = to from by simp [vp_updL, s4]) ?_
    refine W.lcmp hx hb d_M_change_147 ?_
    refine lv_if_le (tgt := 160) hx hb d_M_change_148 (by decide) (fun cx => ?_) (fun cx => ?_)
    · refine lv_aload_n hx hb d_M_change_160 rfl (lv_at hl 1 rfl) ?_
      refine va_get (D := (dC, dI)) (ci := 8) (v := .ref p16) (C := "UpcastStreamsModel") (T := F_M) (N := 29) hx hb hts in_M hown hK hP 0 rfl rfl 21 (by decide) (hts _ uw_3_152) (fun _ h9 => h9) rfl d_M_change_161 ?_
      refine lv_iconst (v := (4 : Int32)) hx hb d_M_change_164 (by decide) ?_
      refine us_lald (j := 4) hx hb hK hP 1 1 rfl rfl (by unfold vp_in; decide) (by decide) d_M_change_165 ?_
      refine us_topl (show ((vp_updL (vp_updL (vp_updL (vp_updL SA 2 (SA 2)) 3 ba) 0 ((vp_updL (vp_updL SA 2 (SA 2)) 3 ba) 0)) 1 (1 : Int64)) 4) = to from by simp [vp_updL, s4]) ?_
      refine us_last (j := 4) hx hb hK hP hD hS 1 1 rfl rfl (by unfold vp_in; decide) (by decide) d_M_change_166 (fun H locs hP hD hS => ?_)
      have hP : va_P (dC, dI) vwCl [(mm, .inr (8, [.int mp, .int co, .int (nI n), .ref p1, .ref p2, .ref p3, .ref p4, .ref p5, .int (nI un), .ref p6, .ref p7, .ref p8, .int cm, .ref p9, .ref p10, .ref p11, .int ope, .ref p12, .ref p13, .ref p14, .ref p15, .ref p16, .ref p17, .ref p18, .ref p19, .ref p20, .ref p21, .int (nI he), .ref p22])), (p16, .inl (cL, 8, .inr (.inl (vp_updL (vp_updL (vp_updL (vp_updL (vp_updL SA 2 (SA 2)) 3 ba) 0 ((vp_updL (vp_updL SA 2 (SA 2)) 3 ba) 0)) 1 (1 : Int64)) 4 to))))] H := hP
      have hD : va_D zA [(mm, .inr (8, [.int mp, .int co, .int (nI n), .ref p1, .ref p2, .ref p3, .ref p4, .ref p5, .int (nI un), .ref p6, .ref p7, .ref p8, .int cm, .ref p9, .ref p10, .ref p11, .int ope, .ref p12, .ref p13, .ref p14, .ref p15, .ref p16, .ref p17, .ref p18, .ref p19, .ref p20, .ref p21, .int (nI he), .ref p22])), (p16, .inl (cL, 8, .inr (.inl (vp_updL (vp_updL (vp_updL (vp_updL (vp_updL SA 2 (SA 2)) 3 ba) 0 ((vp_updL (vp_updL SA 2 (SA 2)) 3 ba) 0)) 1 (1 : Int64)) 4 to))))] := hD
      refine lv_aload_n hx hb d_M_change_167 rfl (lv_at hl 1 rfl) ?_
      refine va_get (D := (dC, dI)) (ci := 8) (v := .ref p16) (C := "UpcastStreamsModel") (T := F_M) (N := 29) hx hb hts in_M hown hK hP 0 rfl rfl 21 (by decide) (hts _ uw_3_152) (fun _ h9 => h9) rfl d_M_change_168 ?_
      refine lv_iconst (v := (5 : Int32)) hx hb d_M_change_171 (by decide) ?_
      refine lv_aload_n hx hb d_M_change_172 rfl (lv_at hl 1 rfl) ?_
      refine va_get (D := (dC, dI)) (ci := 8) (v := .ref p16) (C := "UpcastStreamsModel") (T := F_M) (N := 29) hx hb hts in_M hown hK hP 0 rfl rfl 21 (by decide) (hts _ uw_3_152) (fun _ h9 => h9) rfl d_M_change_173 ?_
      refine lv_iconst (v := (5 : Int32)) hx hb d_M_change_176 (by decide) ?_
      refine us_lald (j := 5) hx hb hK hP 1 1 rfl rfl (by unfold vp_in; decide) (by decide) d_M_change_177 ?_
      refine us_topl (show ((vp_updL (vp_updL (vp_updL (vp_updL (vp_updL SA 2 (SA 2)) 3 ba) 0 ((vp_updL (vp_updL SA 2 (SA 2)) 3 ba) 0)) 1 (1 : Int64)) 4 to) 5) = mo from by simp [vp_updL, s5]) ?_
      refine lv_lconst (v := (1 : Int64)) hx hb d_M_change_178 (by decide) ?_
      refine lv_ladd hx hb d_M_change_179 ?_
      refine us_last (j := 5) hx hb hK hP hD hS 1 1 rfl rfl (by unfold vp_in; decide) (by decide) d_M_change_180 (fun H locs hP hD hS => ?_)
      have hP : va_P (dC, dI) vwCl [(mm, .inr (8, [.int mp, .int co, .int (nI n), .ref p1, .ref p2, .ref p3, .ref p4, .ref p5, .int (nI un), .ref p6, .ref p7, .ref p8, .int cm, .ref p9, .ref p10, .ref p11, .int ope, .ref p12, .ref p13, .ref p14, .ref p15, .ref p16, .ref p17, .ref p18, .ref p19, .ref p20, .ref p21, .int (nI he), .ref p22])), (p16, .inl (cL, 8, .inr (.inl (vp_updL (vp_updL (vp_updL (vp_updL (vp_updL (vp_updL SA 2 (SA 2)) 3 ba) 0 ((vp_updL (vp_updL SA 2 (SA 2)) 3 ba) 0)) 1 (1 : Int64)) 4 to) 5 (mo + (1 : Int64))))))] H := hP
      have hD : va_D zA [(mm, .inr (8, [.int mp, .int co, .int (nI n), .ref p1, .ref p2, .ref p3, .ref p4, .ref p5, .int (nI un), .ref p6, .ref p7, .ref p8, .int cm, .ref p9, .ref p10, .ref p11, .int ope, .ref p12, .ref p13, .ref p14, .ref p15, .ref p16, .ref p17, .ref p18, .ref p19, .ref p20, .ref p21, .int (nI he), .ref p22])), (p16, .inl (cL, 8, .inr (.inl (vp_updL (vp_updL (vp_updL (vp_updL (vp_updL (vp_updL SA 2 (SA 2)) 3 ba) 0 ((vp_updL (vp_updL SA 2 (SA 2)) 3 ba) 0)) 1 (1 : Int64)) 4 to) 5 (mo + (1 : Int64))))))] := hD
      refine lv_aload_n hx hb d_M_change_181 rfl (lv_at hl 1 rfl) ?_
      refine va_get (D := (dC, dI)) (ci := 8) (v := .ref p16) (C := "UpcastStreamsModel") (T := F_M) (N := 29) hx hb hts in_M hown hK hP 0 rfl rfl 21 (by decide) (hts _ uw_3_152) (fun _ h9 => h9) rfl d_M_change_182 ?_
      refine lv_bipush (v := (7 : Int32)) hx hb d_M_change_185 (by decide) ?_
      refine lv_aload_n hx hb d_M_change_187 rfl (lv_at hl 1 rfl) ?_
      refine va_get (D := (dC, dI)) (ci := 8) (v := .ref p16) (C := "UpcastStreamsModel") (T := F_M) (N := 29) hx hb hts in_M hown hK hP 0 rfl rfl 21 (by decide) (hts _ uw_3_152) (fun _ h9 => h9) rfl d_M_change_188 ?_
      refine lv_bipush (v := (7 : Int32)) hx hb d_M_change_191 (by decide) ?_
      refine us_lald (j := 7) hx hb hK hP 1 1 rfl rfl (by unfold vp_in; decide) (by decide) d_M_change_193 ?_
      refine us_topl (show ((vp_updL (vp_updL (vp_updL (vp_updL (vp_updL (vp_updL SA 2 (SA 2)) 3 ba) 0 ((vp_updL (vp_updL SA 2 (SA 2)) 3 ba) 0)) 1 (1 : Int64)) 4 to) 5 (mo + (1 : Int64))) 7) = ch from by simp [vp_updL, s7]) ?_
      refine lv_ldc2 (v := (31 : Int64)) hx hb hown (hts _ uw_4_38) d_M_change_194 ?_
      refine lv_lmul hx hb d_M_change_197 ?_
      refine lv_iload_n hx hb d_M_change_198 rfl (lv_at hl 2 rfl) ?_
      refine lv_i2l (v := (nI 3).toInt64) hx hb d_M_change_199 rfl ?_
      refine lv_ladd hx hb d_M_change_200 ?_
      refine lv_ldc2 (v := (7 : Int64)) hx hb hown (hts _ uw_4_39) d_M_change_201 ?_
      refine lv_iload_n hx hb d_M_change_204 rfl (lv_at hl 3 rfl) ?_
      refine lv_i2l (v := a.toInt64) hx hb d_M_change_205 rfl ?_
      refine lv_lmul hx hb d_M_change_206 ?_
      refine lv_ladd hx hb d_M_change_207 ?_
      refine lv_iload_n hx hb d_M_change_208 rfl (lv_at hl 4 rfl) ?_
      refine lv_i2l (v := b.toInt64) hx hb d_M_change_209 rfl ?_
      refine lv_lxor hx hb d_M_change_210 ?_
      refine us_last (j := 7) hx hb hK hP hD hS 1 1 rfl rfl (by unfold vp_in; decide) (by decide) d_M_change_211 (fun H locs hP hD hS => ?_)
      have hP : va_P (dC, dI) vwCl [(mm, .inr (8, [.int mp, .int co, .int (nI n), .ref p1, .ref p2, .ref p3, .ref p4, .ref p5, .int (nI un), .ref p6, .ref p7, .ref p8, .int cm, .ref p9, .ref p10, .ref p11, .int ope, .ref p12, .ref p13, .ref p14, .ref p15, .ref p16, .ref p17, .ref p18, .ref p19, .ref p20, .ref p21, .int (nI he), .ref p22])), (p16, .inl (cL, 8, .inr (.inl (vp_updL (vp_updL (vp_updL (vp_updL (vp_updL (vp_updL (vp_updL SA 2 (SA 2)) 3 ba) 0 ((vp_updL (vp_updL SA 2 (SA 2)) 3 ba) 0)) 1 (1 : Int64)) 4 to) 5 (mo + (1 : Int64))) 7 ((((ch * (31 : Int64)) + ((nI 3).toInt64)) + ((7 : Int64) * a.toInt64)) ^^^ b.toInt64)))))] H := hP
      have hD : va_D zA [(mm, .inr (8, [.int mp, .int co, .int (nI n), .ref p1, .ref p2, .ref p3, .ref p4, .ref p5, .int (nI un), .ref p6, .ref p7, .ref p8, .int cm, .ref p9, .ref p10, .ref p11, .int ope, .ref p12, .ref p13, .ref p14, .ref p15, .ref p16, .ref p17, .ref p18, .ref p19, .ref p20, .ref p21, .int (nI he), .ref p22])), (p16, .inl (cL, 8, .inr (.inl (vp_updL (vp_updL (vp_updL (vp_updL (vp_updL (vp_updL (vp_updL SA 2 (SA 2)) 3 ba) 0 ((vp_updL (vp_updL SA 2 (SA 2)) 3 ba) 0)) 1 (1 : Int64)) 4 to) 5 (mo + (1 : Int64))) 7 ((((ch * (31 : Int64)) + ((nI 3).toInt64)) + ((7 : Int64) * a.toInt64)) ^^^ b.toInt64)))))] := hD
      exact us_vret hQ (by decide) (by decide) hx hb hr hlk hK hS (vp_updL (vp_updL (vp_updL (vp_updL (vp_updL (vp_updL (vp_updL SA 2 (SA 2)) 3 ba) 0 ((vp_updL (vp_updL SA 2 (SA 2)) 3 ba) 0)) 1 (1 : Int64)) 4 to) 5 (mo + (1 : Int64))) 7 ((((ch * (31 : Int64)) + ((nI 3).toInt64)) + ((7 : Int64) * a.toInt64)) ^^^ b.toInt64)) rfl (by first | (have cz := us_mx1 cx; refine ⟨?_, ?_, ?_, ?_, ?_, ?_, ?_, ?_⟩ <;> simp [us_chg, us_cnt, vp_updL, us_bl, s0, s1, s2, s3, s4, s5, s6, s7, cz]; done) | (have cz := us_mx2 cx; refine ⟨?_, ?_, ?_, ?_, ?_, ?_, ?_, ?_⟩ <;> simp [us_chg, us_cnt, vp_updL, us_bl, s0, s1, s2, s3, s4, s5, s6, s7, cz]; done)) hP hD d_M_change_212
    · refine lv_aload_n hx hb d_M_change_151 rfl (lv_at hl 1 rfl) ?_
      refine va_get (D := (dC, dI)) (ci := 8) (v := .ref p16) (C := "UpcastStreamsModel") (T := F_M) (N := 29) hx hb hts in_M hown hK hP 0 rfl rfl 21 (by decide) (hts _ uw_3_152) (fun _ h9 => h9) rfl d_M_change_152 ?_
      refine lv_iconst (v := (3 : Int32)) hx hb d_M_change_155 (by decide) ?_
      refine us_lald (j := 3) hx hb hK hP 1 1 rfl rfl (by unfold vp_in; decide) (by decide) d_M_change_156 ?_
      refine us_topl (show ((vp_updL (vp_updL (vp_updL (vp_updL SA 2 (SA 2)) 3 ba) 0 ((vp_updL (vp_updL SA 2 (SA 2)) 3 ba) 0)) 1 (1 : Int64)) 3) = ba from by simp [vp_updL, s3]) ?_
      refine lv_goto (tgt := 166) hx hb d_M_change_157 (by decide) ?_
      refine us_last (j := 4) hx hb hK hP hD hS 1 1 rfl rfl (by unfold vp_in; decide) (by decide) d_M_change_166 (fun H locs hP hD hS => ?_)
      have hP : va_P (dC, dI) vwCl [(mm, .inr (8, [.int mp, .int co, .int (nI n), .ref p1, .ref p2, .ref p3, .ref p4, .ref p5, .int (nI un), .ref p6, .ref p7, .ref p8, .int cm, .ref p9, .ref p10, .ref p11, .int ope, .ref p12, .ref p13, .ref p14, .ref p15, .ref p16, .ref p17, .ref p18, .ref p19, .ref p20, .ref p21, .int (nI he), .ref p22])), (p16, .inl (cL, 8, .inr (.inl (vp_updL (vp_updL (vp_updL (vp_updL (vp_updL SA 2 (SA 2)) 3 ba) 0 ((vp_updL (vp_updL SA 2 (SA 2)) 3 ba) 0)) 1 (1 : Int64)) 4 ba))))] H := hP
      have hD : va_D zA [(mm, .inr (8, [.int mp, .int co, .int (nI n), .ref p1, .ref p2, .ref p3, .ref p4, .ref p5, .int (nI un), .ref p6, .ref p7, .ref p8, .int cm, .ref p9, .ref p10, .ref p11, .int ope, .ref p12, .ref p13, .ref p14, .ref p15, .ref p16, .ref p17, .ref p18, .ref p19, .ref p20, .ref p21, .int (nI he), .ref p22])), (p16, .inl (cL, 8, .inr (.inl (vp_updL (vp_updL (vp_updL (vp_updL (vp_updL SA 2 (SA 2)) 3 ba) 0 ((vp_updL (vp_updL SA 2 (SA 2)) 3 ba) 0)) 1 (1 : Int64)) 4 ba))))] := hD
      refine lv_aload_n hx hb d_M_change_167 rfl (lv_at hl 1 rfl) ?_
      refine va_get (D := (dC, dI)) (ci := 8) (v := .ref p16) (C := "UpcastStreamsModel") (T := F_M) (N := 29) hx hb hts in_M hown hK hP 0 rfl rfl 21 (by decide) (hts _ uw_3_152) (fun _ h9 => h9) rfl d_M_change_168 ?_
      refine lv_iconst (v := (5 : Int32)) hx hb d_M_change_171 (by decide) ?_
      refine lv_aload_n hx hb d_M_change_172 rfl (lv_at hl 1 rfl) ?_
      refine va_get (D := (dC, dI)) (ci := 8) (v := .ref p16) (C := "UpcastStreamsModel") (T := F_M) (N := 29) hx hb hts in_M hown hK hP 0 rfl rfl 21 (by decide) (hts _ uw_3_152) (fun _ h9 => h9) rfl d_M_change_173 ?_
      refine lv_iconst (v := (5 : Int32)) hx hb d_M_change_176 (by decide) ?_
      refine us_lald (j := 5) hx hb hK hP 1 1 rfl rfl (by unfold vp_in; decide) (by decide) d_M_change_177 ?_
      refine us_topl (show ((vp_updL (vp_updL (vp_updL (vp_updL (vp_updL SA 2 (SA 2)) 3 ba) 0 ((vp_updL (vp_updL SA 2 (SA 2)) 3 ba) 0)) 1 (1 : Int64)) 4 ba) 5) = mo from by simp [vp_updL, s5]) ?_
      refine lv_lconst (v := (1 : Int64)) hx hb d_M_change_178 (by decide) ?_
      refine lv_ladd hx hb d_M_change_179 ?_
      refine us_last (j := 5) hx hb hK hP hD hS 1 1 rfl rfl (by unfold vp_in; decide) (by decide) d_M_change_180 (fun H locs hP hD hS => ?_)
      have hP : va_P (dC, dI) vwCl [(mm, .inr (8, [.int mp, .int co, .int (nI n), .ref p1, .ref p2, .ref p3, .ref p4, .ref p5, .int (nI un), .ref p6, .ref p7, .ref p8, .int cm, .ref p9, .ref p10, .ref p11, .int ope, .ref p12, .ref p13, .ref p14, .ref p15, .ref p16, .ref p17, .ref p18, .ref p19, .ref p20, .ref p21, .int (nI he), .ref p22])), (p16, .inl (cL, 8, .inr (.inl (vp_updL (vp_updL (vp_updL (vp_updL (vp_updL (vp_updL SA 2 (SA 2)) 3 ba) 0 ((vp_updL (vp_updL SA 2 (SA 2)) 3 ba) 0)) 1 (1 : Int64)) 4 ba) 5 (mo + (1 : Int64))))))] H := hP
      have hD : va_D zA [(mm, .inr (8, [.int mp, .int co, .int (nI n), .ref p1, .ref p2, .ref p3, .ref p4, .ref p5, .int (nI un), .ref p6, .ref p7, .ref p8, .int cm, .ref p9, .ref p10, .ref p11, .int ope, .ref p12, .ref p13, .ref p14, .ref p15, .ref p16, .ref p17, .ref p18, .ref p19, .ref p20, .ref p21, .int (nI he), .ref p22])), (p16, .inl (cL, 8, .inr (.inl (vp_updL (vp_updL (vp_updL (vp_updL (vp_updL (vp_updL SA 2 (SA 2)) 3 ba) 0 ((vp_updL (vp_updL SA 2 (SA 2)) 3 ba) 0)) 1 (1 : Int64)) 4 ba) 5 (mo + (1 : Int64))))))] := hD
      refine lv_aload_n hx hb d_M_change_181 rfl (lv_at hl 1 rfl) ?_
      refine va_get (D := (dC, dI)) (ci := 8) (v := .ref p16) (C := "UpcastStreamsModel") (T := F_M) (N := 29) hx hb hts in_M hown hK hP 0 rfl rfl 21 (by decide) (hts _ uw_3_152) (fun _ h9 => h9) rfl d_M_change_182 ?_
      refine lv_bipush (v := (7 : Int32)) hx hb d_M_change_185 (by decide) ?_
      refine lv_aload_n hx hb d_M_change_187 rfl (lv_at hl 1 rfl) ?_
      refine va_get (D := (dC, dI)) (ci := 8) (v := .ref p16) (C := "UpcastStreamsModel") (T := F_M) (N := 29) hx hb hts in_M hown hK hP 0 rfl rfl 21 (by decide) (hts _ uw_3_152) (fun _ h9 => h9) rfl d_M_change_188 ?_
      refine lv_bipush (v := (7 : Int32)) hx hb d_M_change_191 (by decide) ?_
      refine us_lald (j := 7) hx hb hK hP 1 1 rfl rfl (by unfold vp_in; decide) (by decide) d_M_change_193 ?_
      refine us_topl (show ((vp_updL (vp_updL (vp_updL (vp_updL (vp_updL (vp_updL SA 2 (SA 2)) 3 ba) 0 ((vp_updL (vp_updL SA 2 (SA 2)) 3 ba) 0)) 1 (1 : Int64)) 4 ba) 5 (mo + (1 : Int64))) 7) = ch from by simp [vp_updL, s7]) ?_
      refine lv_ldc2 (v := (31 : Int64)) hx hb hown (hts _ uw_4_38) d_M_change_194 ?_
      refine lv_lmul hx hb d_M_change_197 ?_
      refine lv_iload_n hx hb d_M_change_198 rfl (lv_at hl 2 rfl) ?_
      refine lv_i2l (v := (nI 3).toInt64) hx hb d_M_change_199 rfl ?_
      refine lv_ladd hx hb d_M_change_200 ?_
      refine lv_ldc2 (v := (7 : Int64)) hx hb hown (hts _ uw_4_39) d_M_change_201 ?_
      refine lv_iload_n hx hb d_M_change_204 rfl (lv_at hl 3 rfl) ?_
      refine lv_i2l (v := a.toInt64) hx hb d_M_change_205 rfl ?_
      refine lv_lmul hx hb d_M_change_206 ?_
      refine lv_ladd hx hb d_M_change_207 ?_
      refine lv_iload_n hx hb d_M_change_208 rfl (lv_at hl 4 rfl) ?_
      refine lv_i2l (v := b.toInt64) hx hb d_M_change_209 rfl ?_
      refine lv_lxor hx hb d_M_change_210 ?_
      refine us_last (j := 7) hx hb hK hP hD hS 1 1 rfl rfl (by unfold vp_in; decide) (by decide) d_M_change_211 (fun H locs hP hD hS => ?_)
      have hP : va_P (dC, dI) vwCl [(mm, .inr (8, [.int mp, .int co, .int (nI n), .ref p1, .ref p2, .ref p3, .ref p4, .ref p5, .int (nI un), .ref p6, .ref p7, .ref p8, .int cm, .ref p9, .ref p10, .ref p11, .int ope, .ref p12, .ref p13, .ref p14, .ref p15, .ref p16, .ref p17, .ref p18, .ref p19, .ref p20, .ref p21, .int (nI he), .ref p22])), (p16, .inl (cL, 8, .inr (.inl (vp_updL (vp_updL (vp_updL (vp_updL (vp_updL (vp_updL (vp_updL SA 2 (SA 2)) 3 ba) 0 ((vp_updL (vp_updL SA 2 (SA 2)) 3 ba) 0)) 1 (1 : Int64)) 4 ba) 5 (mo + (1 : Int64))) 7 ((((ch * (31 : Int64)) + ((nI 3).toInt64)) + ((7 : Int64) * a.toInt64)) ^^^ b.toInt64)))))] H := hP
      have hD : va_D zA [(mm, .inr (8, [.int mp, .int co, .int (nI n), .ref p1, .ref p2, .ref p3, .ref p4, .ref p5, .int (nI un), .ref p6, .ref p7, .ref p8, .int cm, .ref p9, .ref p10, .ref p11, .int ope, .ref p12, .ref p13, .ref p14, .ref p15, .ref p16, .ref p17, .ref p18, .ref p19, .ref p20, .ref p21, .int (nI he), .ref p22])), (p16, .inl (cL, 8, .inr (.inl (vp_updL (vp_updL (vp_updL (vp_updL (vp_updL (vp_updL (vp_updL SA 2 (SA 2)) 3 ba) 0 ((vp_updL (vp_updL SA 2 (SA 2)) 3 ba) 0)) 1 (1 : Int64)) 4 ba) 5 (mo + (1 : Int64))) 7 ((((ch * (31 : Int64)) + ((nI 3).toInt64)) + ((7 : Int64) * a.toInt64)) ^^^ b.toInt64)))))] := hD
      exact us_vret hQ (by decide) (by decide) hx hb hr hlk hK hS (vp_updL (vp_updL (vp_updL (vp_updL (vp_updL (vp_updL (vp_updL SA 2 (SA 2)) 3 ba) 0 ((vp_updL (vp_updL SA 2 (SA 2)) 3 ba) 0)) 1 (1 : Int64)) 4 ba) 5 (mo + (1 : Int64))) 7 ((((ch * (31 : Int64)) + ((nI 3).toInt64)) + ((7 : Int64) * a.toInt64)) ^^^ b.toInt64)) rfl (by first | (have cz := us_mx1 cx; refine ⟨?_, ?_, ?_, ?_, ?_, ?_, ?_, ?_⟩ <;> simp [us_chg, us_cnt, vp_updL, us_bl, s0, s1, s2, s3, s4, s5, s6, s7, cz]; done) | (have cz := us_mx2 cx; refine ⟨?_, ?_, ?_, ?_, ?_, ?_, ?_, ?_⟩ <;> simp [us_chg, us_cnt, vp_updL, us_bl, s0, s1, s2, s3, s4, s5, s6, s7, cz]; done)) hP hD d_M_change_212
  · refine lv_aload_n hx hb d_M_change_0 rfl (lv_at hl 0 rfl) ?_
    refine va_get (D := (dC, dI)) (ci := 8) (v := .ref p16) (C := "UpcastStreamsModel") (T := F_M) (N := 29) hx hb hts in_M hown hK hP 0 rfl rfl 21 (by decide) (hts _ uw_3_152) (fun _ h9 => h9) rfl d_M_change_1 ?_
    refine lv_iconst (v := (3 : Int32)) hx hb d_M_change_4 (by decide) ?_
    refine us_lald (j := 3) hx hb hK hP 1 1 rfl rfl (by unfold vp_in; decide) (by decide) d_M_change_5 ?_
    refine us_topl (show (SA 3) = ba from s3) ?_
    refine lv_lstore (lv' := [(4, .long ba), (0, .ref mm), (1, .int (nI 4)), (2, .int a), (3, .int b)]) hx hb d_M_change_6 hl (by decide) rfl (fun ls hl => ?_)
    refine lv_aload_n hx hb d_M_change_8 rfl (lv_at hl 1 rfl) ?_
    refine va_get (D := (dC, dI)) (ci := 8) (v := .ref p16) (C := "UpcastStreamsModel") (T := F_M) (N := 29) hx hb hts in_M hown hK hP 0 rfl rfl 21 (by decide) (hts _ uw_3_152) (fun _ h9 => h9) rfl d_M_change_9 ?_
    refine lv_iconst (v := (2 : Int32)) hx hb d_M_change_12 (by decide) ?_
    refine lv_iload_n hx hb d_M_change_13 rfl (lv_at hl 2 rfl) ?_
    refine lv_if_ne (tgt := 22) hx hb d_M_change_14 (by decide) (fun c32 => ?_) (fun h => absurd h (by decide))
    refine lv_aload_n hx hb d_M_change_22 rfl (lv_at hl 1 rfl) ?_
    refine va_get (D := (dC, dI)) (ci := 8) (v := .ref p16) (C := "UpcastStreamsModel") (T := F_M) (N := 29) hx hb hts in_M hown hK hP 0 rfl rfl 21 (by decide) (hts _ uw_3_152) (fun _ h9 => h9) rfl d_M_change_23 ?_
    refine lv_iconst (v := (2 : Int32)) hx hb d_M_change_26 (by decide) ?_
    refine us_lald (j := 2) hx hb hK hP 1 1 rfl rfl (by unfold vp_in; decide) (by decide) d_M_change_27 ?_
    refine us_last (j := 2) hx hb hK hP hD hS 1 1 rfl rfl (by unfold vp_in; decide) (by decide) d_M_change_28 (fun H locs hP hD hS => ?_)
    have hP : va_P (dC, dI) vwCl [(mm, .inr (8, [.int mp, .int co, .int (nI n), .ref p1, .ref p2, .ref p3, .ref p4, .ref p5, .int (nI un), .ref p6, .ref p7, .ref p8, .int cm, .ref p9, .ref p10, .ref p11, .int ope, .ref p12, .ref p13, .ref p14, .ref p15, .ref p16, .ref p17, .ref p18, .ref p19, .ref p20, .ref p21, .int (nI he), .ref p22])), (p16, .inl (cL, 8, .inr (.inl (vp_updL SA 2 (SA 2)))))] H := hP
    have hD : va_D zA [(mm, .inr (8, [.int mp, .int co, .int (nI n), .ref p1, .ref p2, .ref p3, .ref p4, .ref p5, .int (nI un), .ref p6, .ref p7, .ref p8, .int cm, .ref p9, .ref p10, .ref p11, .int ope, .ref p12, .ref p13, .ref p14, .ref p15, .ref p16, .ref p17, .ref p18, .ref p19, .ref p20, .ref p21, .int (nI he), .ref p22])), (p16, .inl (cL, 8, .inr (.inl (vp_updL SA 2 (SA 2)))))] := hD
    refine lv_aload_n hx hb d_M_change_29 rfl (lv_at hl 1 rfl) ?_
    refine va_get (D := (dC, dI)) (ci := 8) (v := .ref p16) (C := "UpcastStreamsModel") (T := F_M) (N := 29) hx hb hts in_M hown hK hP 0 rfl rfl 21 (by decide) (hts _ uw_3_152) (fun _ h9 => h9) rfl d_M_change_30 ?_
    refine lv_iconst (v := (3 : Int32)) hx hb d_M_change_33 (by decide) ?_
    refine lv_iload_n hx hb d_M_change_34 rfl (lv_at hl 2 rfl) ?_
    refine lv_if_ne (tgt := 42) hx hb d_M_change_35 (by decide) (fun c33 => ?_) (fun h => absurd h (by decide))
    refine lv_iload_n hx hb d_M_change_42 rfl (lv_at hl 2 rfl) ?_
    refine lv_iconst (v := (1 : Int32)) hx hb d_M_change_43 (by decide) ?_
    refine lv_icmp_ne (tgt := 55) hx hb d_M_change_44 (by decide) (fun c34 => ?_) (fun h => absurd h (by decide))
    refine lv_iload_n hx hb d_M_change_55 rfl (lv_at hl 2 rfl) ?_
    refine lv_iconst (v := (2 : Int32)) hx hb d_M_change_56 (by decide) ?_
    refine lv_icmp_ne (tgt := 68) hx hb d_M_change_57 (by decide) (fun c35 => ?_) (fun h => absurd h (by decide))
    refine lv_lload hx hb d_M_change_68 (lv_at hl 0 rfl) ?_
    refine us_last (j := 3) hx hb hK hP hD hS 1 1 rfl rfl (by unfold vp_in; decide) (by decide) d_M_change_70 (fun H locs hP hD hS => ?_)
    have hP : va_P (dC, dI) vwCl [(mm, .inr (8, [.int mp, .int co, .int (nI n), .ref p1, .ref p2, .ref p3, .ref p4, .ref p5, .int (nI un), .ref p6, .ref p7, .ref p8, .int cm, .ref p9, .ref p10, .ref p11, .int ope, .ref p12, .ref p13, .ref p14, .ref p15, .ref p16, .ref p17, .ref p18, .ref p19, .ref p20, .ref p21, .int (nI he), .ref p22])), (p16, .inl (cL, 8, .inr (.inl (vp_updL (vp_updL SA 2 (SA 2)) 3 ba))))] H := hP
    have hD : va_D zA [(mm, .inr (8, [.int mp, .int co, .int (nI n), .ref p1, .ref p2, .ref p3, .ref p4, .ref p5, .int (nI un), .ref p6, .ref p7, .ref p8, .int cm, .ref p9, .ref p10, .ref p11, .int ope, .ref p12, .ref p13, .ref p14, .ref p15, .ref p16, .ref p17, .ref p18, .ref p19, .ref p20, .ref p21, .int (nI he), .ref p22])), (p16, .inl (cL, 8, .inr (.inl (vp_updL (vp_updL SA 2 (SA 2)) 3 ba))))] := hD
    refine lv_aload_n hx hb d_M_change_71 rfl (lv_at hl 1 rfl) ?_
    refine va_get (D := (dC, dI)) (ci := 8) (v := .ref p16) (C := "UpcastStreamsModel") (T := F_M) (N := 29) hx hb hts in_M hown hK hP 0 rfl rfl 21 (by decide) (hts _ uw_3_152) (fun _ h9 => h9) rfl d_M_change_72 ?_
    refine lv_iconst (v := (0 : Int32)) hx hb d_M_change_75 (by decide) ?_
    refine lv_iload_n hx hb d_M_change_76 rfl (lv_at hl 2 rfl) ?_
    refine lv_if_ne (tgt := 84) hx hb d_M_change_77 (by decide) (fun c36 => ?_) (fun h => absurd h (by decide))
    refine lv_iload_n hx hb d_M_change_84 rfl (lv_at hl 2 rfl) ?_
    refine lv_iconst (v := (5 : Int32)) hx hb d_M_change_85 (by decide) ?_
    refine lv_icmp_ne (tgt := 93) hx hb d_M_change_86 (by decide) (fun c37 => ?_) (fun h => absurd h (by decide))
    refine lv_aload_n hx hb d_M_change_93 rfl (lv_at hl 1 rfl) ?_
    refine va_get (D := (dC, dI)) (ci := 8) (v := .ref p16) (C := "UpcastStreamsModel") (T := F_M) (N := 29) hx hb hts in_M hown hK hP 0 rfl rfl 21 (by decide) (hts _ uw_3_152) (fun _ h9 => h9) rfl d_M_change_94 ?_
    refine lv_iconst (v := (0 : Int32)) hx hb d_M_change_97 (by decide) ?_
    refine us_lald (j := 0) hx hb hK hP 1 1 rfl rfl (by unfold vp_in; decide) (by decide) d_M_change_98 ?_
    refine us_last (j := 0) hx hb hK hP hD hS 1 1 rfl rfl (by unfold vp_in; decide) (by decide) d_M_change_99 (fun H locs hP hD hS => ?_)
    have hP : va_P (dC, dI) vwCl [(mm, .inr (8, [.int mp, .int co, .int (nI n), .ref p1, .ref p2, .ref p3, .ref p4, .ref p5, .int (nI un), .ref p6, .ref p7, .ref p8, .int cm, .ref p9, .ref p10, .ref p11, .int ope, .ref p12, .ref p13, .ref p14, .ref p15, .ref p16, .ref p17, .ref p18, .ref p19, .ref p20, .ref p21, .int (nI he), .ref p22])), (p16, .inl (cL, 8, .inr (.inl (vp_updL (vp_updL (vp_updL SA 2 (SA 2)) 3 ba) 0 ((vp_updL (vp_updL SA 2 (SA 2)) 3 ba) 0)))))] H := hP
    have hD : va_D zA [(mm, .inr (8, [.int mp, .int co, .int (nI n), .ref p1, .ref p2, .ref p3, .ref p4, .ref p5, .int (nI un), .ref p6, .ref p7, .ref p8, .int cm, .ref p9, .ref p10, .ref p11, .int ope, .ref p12, .ref p13, .ref p14, .ref p15, .ref p16, .ref p17, .ref p18, .ref p19, .ref p20, .ref p21, .int (nI he), .ref p22])), (p16, .inl (cL, 8, .inr (.inl (vp_updL (vp_updL (vp_updL SA 2 (SA 2)) 3 ba) 0 ((vp_updL (vp_updL SA 2 (SA 2)) 3 ba) 0)))))] := hD
    refine lv_aload_n hx hb d_M_change_100 rfl (lv_at hl 1 rfl) ?_
    refine va_get (D := (dC, dI)) (ci := 8) (v := .ref p16) (C := "UpcastStreamsModel") (T := F_M) (N := 29) hx hb hts in_M hown hK hP 0 rfl rfl 21 (by decide) (hts _ uw_3_152) (fun _ h9 => h9) rfl d_M_change_101 ?_
    refine lv_iconst (v := (1 : Int32)) hx hb d_M_change_104 (by decide) ?_
    refine lv_iload_n hx hb d_M_change_105 rfl (lv_at hl 2 rfl) ?_
    refine lv_iconst (v := (3 : Int32)) hx hb d_M_change_106 (by decide) ?_
    refine lv_icmp_ne (tgt := 114) hx hb d_M_change_107 (by decide) (fun c38 => ?_) (fun h => absurd h (by decide))
    refine lv_iload_n hx hb d_M_change_114 rfl (lv_at hl 2 rfl) ?_
    refine lv_iconst (v := (4 : Int32)) hx hb d_M_change_115 (by decide) ?_
    refine lv_icmp_ne (tgt := 123) hx hb d_M_change_116 (by decide) (fun h => absurd h (by decide)) (fun c39 => ?_)
    refine lv_lconst (v := (0 : Int64)) hx hb d_M_change_119 (by decide) ?_
    refine lv_goto (tgt := 129) hx hb d_M_change_120 (by decide) ?_
    refine us_last (j := 1) hx hb hK hP hD hS 1 1 rfl rfl (by unfold vp_in; decide) (by decide) d_M_change_129 (fun H locs hP hD hS => ?_)
    have hP : va_P (dC, dI) vwCl [(mm, .inr (8, [.int mp, .int co, .int (nI n), .ref p1, .ref p2, .ref p3, .ref p4, .ref p5, .int (nI un), .ref p6, .ref p7, .ref p8, .int cm, .ref p9, .ref p10, .ref p11, .int ope, .ref p12, .ref p13, .ref p14, .ref p15, .ref p16, .ref p17, .ref p18, .ref p19, .ref p20, .ref p21, .int (nI he), .ref p22])), (p16, .inl (cL, 8, .inr (.inl (vp_updL (vp_updL (vp_updL (vp_updL SA 2 (SA 2)) 3 ba) 0 ((vp_updL (vp_updL SA 2 (SA 2)) 3 ba) 0)) 1 (0 : Int64)))))] H := hP
    have hD : va_D zA [(mm, .inr (8, [.int mp, .int co, .int (nI n), .ref p1, .ref p2, .ref p3, .ref p4, .ref p5, .int (nI un), .ref p6, .ref p7, .ref p8, .int cm, .ref p9, .ref p10, .ref p11, .int ope, .ref p12, .ref p13, .ref p14, .ref p15, .ref p16, .ref p17, .ref p18, .ref p19, .ref p20, .ref p21, .int (nI he), .ref p22])), (p16, .inl (cL, 8, .inr (.inl (vp_updL (vp_updL (vp_updL (vp_updL SA 2 (SA 2)) 3 ba) 0 ((vp_updL (vp_updL SA 2 (SA 2)) 3 ba) 0)) 1 (0 : Int64)))))] := hD
    refine lv_aload_n hx hb d_M_change_130 rfl (lv_at hl 1 rfl) ?_
    refine va_get (D := (dC, dI)) (ci := 8) (v := .ref p16) (C := "UpcastStreamsModel") (T := F_M) (N := 29) hx hb hts in_M hown hK hP 0 rfl rfl 21 (by decide) (hts _ uw_3_152) (fun _ h9 => h9) rfl d_M_change_131 ?_
    refine lv_iconst (v := (4 : Int32)) hx hb d_M_change_134 (by decide) ?_
    refine lv_aload_n hx hb d_M_change_135 rfl (lv_at hl 1 rfl) ?_
    refine va_get (D := (dC, dI)) (ci := 8) (v := .ref p16) (C := "UpcastStreamsModel") (T := F_M) (N := 29) hx hb hts in_M hown hK hP 0 rfl rfl 21 (by decide) (hts _ uw_3_152) (fun _ h9 => h9) rfl d_M_change_136 ?_
    refine lv_iconst (v := (3 : Int32)) hx hb d_M_change_139 (by decide) ?_
    refine us_lald (j := 3) hx hb hK hP 1 1 rfl rfl (by unfold vp_in; decide) (by decide) d_M_change_140 ?_
    refine us_topl (show ((vp_updL (vp_updL (vp_updL (vp_updL SA 2 (SA 2)) 3 ba) 0 ((vp_updL (vp_updL SA 2 (SA 2)) 3 ba) 0)) 1 (0 : Int64)) 3) = ba from by simp [vp_updL, s3]) ?_
    refine lv_aload_n hx hb d_M_change_141 rfl (lv_at hl 1 rfl) ?_
    refine va_get (D := (dC, dI)) (ci := 8) (v := .ref p16) (C := "UpcastStreamsModel") (T := F_M) (N := 29) hx hb hts in_M hown hK hP 0 rfl rfl 21 (by decide) (hts _ uw_3_152) (fun _ h9 => h9) rfl d_M_change_142 ?_
    refine lv_iconst (v := (4 : Int32)) hx hb d_M_change_145 (by decide) ?_
    refine us_lald (j := 4) hx hb hK hP 1 1 rfl rfl (by unfold vp_in; decide) (by decide) d_M_change_146 ?_
    refine us_topl (show ((vp_updL (vp_updL (vp_updL (vp_updL SA 2 (SA 2)) 3 ba) 0 ((vp_updL (vp_updL SA 2 (SA 2)) 3 ba) 0)) 1 (0 : Int64)) 4) = to from by simp [vp_updL, s4]) ?_
    refine W.lcmp hx hb d_M_change_147 ?_
    refine lv_if_le (tgt := 160) hx hb d_M_change_148 (by decide) (fun cx => ?_) (fun cx => ?_)
    · refine lv_aload_n hx hb d_M_change_160 rfl (lv_at hl 1 rfl) ?_
      refine va_get (D := (dC, dI)) (ci := 8) (v := .ref p16) (C := "UpcastStreamsModel") (T := F_M) (N := 29) hx hb hts in_M hown hK hP 0 rfl rfl 21 (by decide) (hts _ uw_3_152) (fun _ h9 => h9) rfl d_M_change_161 ?_
      refine lv_iconst (v := (4 : Int32)) hx hb d_M_change_164 (by decide) ?_
      refine us_lald (j := 4) hx hb hK hP 1 1 rfl rfl (by unfold vp_in; decide) (by decide) d_M_change_165 ?_
      refine us_topl (show ((vp_updL (vp_updL (vp_updL (vp_updL SA 2 (SA 2)) 3 ba) 0 ((vp_updL (vp_updL SA 2 (SA 2)) 3 ba) 0)) 1 (0 : Int64)) 4) = to from by simp [vp_updL, s4]) ?_
      refine us_last (j := 4) hx hb hK hP hD hS 1 1 rfl rfl (by unfold vp_in; decide) (by decide) d_M_change_166 (fun H locs hP hD hS => ?_)
      have hP : va_P (dC, dI) vwCl [(mm, .inr (8, [.int mp, .int co, .int (nI n), .ref p1, .ref p2, .ref p3, .ref p4, .ref p5, .int (nI un), .ref p6, .ref p7, .ref p8, .int cm, .ref p9, .ref p10, .ref p11, .int ope, .ref p12, .ref p13, .ref p14, .ref p15, .ref p16, .ref p17, .ref p18, .ref p19, .ref p20, .ref p21, .int (nI he), .ref p22])), (p16, .inl (cL, 8, .inr (.inl (vp_updL (vp_updL (vp_updL (vp_updL (vp_updL SA 2 (SA 2)) 3 ba) 0 ((vp_updL (vp_updL SA 2 (SA 2)) 3 ba) 0)) 1 (0 : Int64)) 4 to))))] H := hP
      have hD : va_D zA [(mm, .inr (8, [.int mp, .int co, .int (nI n), .ref p1, .ref p2, .ref p3, .ref p4, .ref p5, .int (nI un), .ref p6, .ref p7, .ref p8, .int cm, .ref p9, .ref p10, .ref p11, .int ope, .ref p12, .ref p13, .ref p14, .ref p15, .ref p16, .ref p17, .ref p18, .ref p19, .ref p20, .ref p21, .int (nI he), .ref p22])), (p16, .inl (cL, 8, .inr (.inl (vp_updL (vp_updL (vp_updL (vp_updL (vp_updL SA 2 (SA 2)) 3 ba) 0 ((vp_updL (vp_updL SA 2 (SA 2)) 3 ba) 0)) 1 (0 : Int64)) 4 to))))] := hD
      refine lv_aload_n hx hb d_M_change_167 rfl (lv_at hl 1 rfl) ?_
      refine va_get (D := (dC, dI)) (ci := 8) (v := .ref p16) (C := "UpcastStreamsModel") (T := F_M) (N := 29) hx hb hts in_M hown hK hP 0 rfl rfl 21 (by decide) (hts _ uw_3_152) (fun _ h9 => h9) rfl d_M_change_168 ?_
      refine lv_iconst (v := (5 : Int32)) hx hb d_M_change_171 (by decide) ?_
      refine lv_aload_n hx hb d_M_change_172 rfl (lv_at hl 1 rfl) ?_
      refine va_get (D := (dC, dI)) (ci := 8) (v := .ref p16) (C := "UpcastStreamsModel") (T := F_M) (N := 29) hx hb hts in_M hown hK hP 0 rfl rfl 21 (by decide) (hts _ uw_3_152) (fun _ h9 => h9) rfl d_M_change_173 ?_
      refine lv_iconst (v := (5 : Int32)) hx hb d_M_change_176 (by decide) ?_
      refine us_lald (j := 5) hx hb hK hP 1 1 rfl rfl (by unfold vp_in; decide) (by decide) d_M_change_177 ?_
      refine us_topl (show ((vp_updL (vp_updL (vp_updL (vp_updL (vp_updL SA 2 (SA 2)) 3 ba) 0 ((vp_updL (vp_updL SA 2 (SA 2)) 3 ba) 0)) 1 (0 : Int64)) 4 to) 5) = mo from by simp [vp_updL, s5]) ?_
      refine lv_lconst (v := (1 : Int64)) hx hb d_M_change_178 (by decide) ?_
      refine lv_ladd hx hb d_M_change_179 ?_
      refine us_last (j := 5) hx hb hK hP hD hS 1 1 rfl rfl (by unfold vp_in; decide) (by decide) d_M_change_180 (fun H locs hP hD hS => ?_)
      have hP : va_P (dC, dI) vwCl [(mm, .inr (8, [.int mp, .int co, .int (nI n), .ref p1, .ref p2, .ref p3, .ref p4, .ref p5, .int (nI un), .ref p6, .ref p7, .ref p8, .int cm, .ref p9, .ref p10, .ref p11, .int ope, .ref p12, .ref p13, .ref p14, .ref p15, .ref p16, .ref p17, .ref p18, .ref p19, .ref p20, .ref p21, .int (nI he), .ref p22])), (p16, .inl (cL, 8, .inr (.inl (vp_updL (vp_updL (vp_updL (vp_updL (vp_updL (vp_updL SA 2 (SA 2)) 3 ba) 0 ((vp_updL (vp_updL SA 2 (SA 2)) 3 ba) 0)) 1 (0 : Int64)) 4 to) 5 (mo + (1 : Int64))))))] H := hP
      have hD : va_D zA [(mm, .inr (8, [.int mp, .int co, .int (nI n), .ref p1, .ref p2, .ref p3, .ref p4, .ref p5, .int (nI un), .ref p6, .ref p7, .ref p8, .int cm, .ref p9, .ref p10, .ref p11, .int ope, .ref p12, .ref p13, .ref p14, .ref p15, .ref p16, .ref p17, .ref p18, .ref p19, .ref p20, .ref p21, .int (nI he), .ref p22])), (p16, .inl (cL, 8, .inr (.inl (vp_updL (vp_updL (vp_updL (vp_updL (vp_updL (vp_updL SA 2 (SA 2)) 3 ba) 0 ((vp_updL (vp_updL SA 2 (SA 2)) 3 ba) 0)) 1 (0 : Int64)) 4 to) 5 (mo + (1 : Int64))))))] := hD
      refine lv_aload_n hx hb d_M_change_181 rfl (lv_at hl 1 rfl) ?_
      refine va_get (D := (dC, dI)) (ci := 8) (v := .ref p16) (C := "UpcastStreamsModel") (T := F_M) (N := 29) hx hb hts in_M hown hK hP 0 rfl rfl 21 (by decide) (hts _ uw_3_152) (fun _ h9 => h9) rfl d_M_change_182 ?_
      refine lv_bipush (v := (7 : Int32)) hx hb d_M_change_185 (by decide) ?_
      refine lv_aload_n hx hb d_M_change_187 rfl (lv_at hl 1 rfl) ?_
      refine va_get (D := (dC, dI)) (ci := 8) (v := .ref p16) (C := "UpcastStreamsModel") (T := F_M) (N := 29) hx hb hts in_M hown hK hP 0 rfl rfl 21 (by decide) (hts _ uw_3_152) (fun _ h9 => h9) rfl d_M_change_188 ?_
      refine lv_bipush (v := (7 : Int32)) hx hb d_M_change_191 (by decide) ?_
      refine us_lald (j := 7) hx hb hK hP 1 1 rfl rfl (by unfold vp_in; decide) (by decide) d_M_change_193 ?_
      refine us_topl (show ((vp_updL (vp_updL (vp_updL (vp_updL (vp_updL (vp_updL SA 2 (SA 2)) 3 ba) 0 ((vp_updL (vp_updL SA 2 (SA 2)) 3 ba) 0)) 1 (0 : Int64)) 4 to) 5 (mo + (1 : Int64))) 7) = ch from by simp [vp_updL, s7]) ?_
      refine lv_ldc2 (v := (31 : Int64)) hx hb hown (hts _ uw_4_38) d_M_change_194 ?_
      refine lv_lmul hx hb d_M_change_197 ?_
      refine lv_iload_n hx hb d_M_change_198 rfl (lv_at hl 2 rfl) ?_
      refine lv_i2l (v := (nI 4).toInt64) hx hb d_M_change_199 rfl ?_
      refine lv_ladd hx hb d_M_change_200 ?_
      refine lv_ldc2 (v := (7 : Int64)) hx hb hown (hts _ uw_4_39) d_M_change_201 ?_
      refine lv_iload_n hx hb d_M_change_204 rfl (lv_at hl 3 rfl) ?_
      refine lv_i2l (v := a.toInt64) hx hb d_M_change_205 rfl ?_
      refine lv_lmul hx hb d_M_change_206 ?_
      refine lv_ladd hx hb d_M_change_207 ?_
      refine lv_iload_n hx hb d_M_change_208 rfl (lv_at hl 4 rfl) ?_
      refine lv_i2l (v := b.toInt64) hx hb d_M_change_209 rfl ?_
      refine lv_lxor hx hb d_M_change_210 ?_
      refine us_last (j := 7) hx hb hK hP hD hS 1 1 rfl rfl (by unfold vp_in; decide) (by decide) d_M_change_211 (fun H locs hP hD hS => ?_)
      have hP : va_P (dC, dI) vwCl [(mm, .inr (8, [.int mp, .int co, .int (nI n), .ref p1, .ref p2, .ref p3, .ref p4, .ref p5, .int (nI un), .ref p6, .ref p7, .ref p8, .int cm, .ref p9, .ref p10, .ref p11, .int ope, .ref p12, .ref p13, .ref p14, .ref p15, .ref p16, .ref p17, .ref p18, .ref p19, .ref p20, .ref p21, .int (nI he), .ref p22])), (p16, .inl (cL, 8, .inr (.inl (vp_updL (vp_updL (vp_updL (vp_updL (vp_updL (vp_updL (vp_updL SA 2 (SA 2)) 3 ba) 0 ((vp_updL (vp_updL SA 2 (SA 2)) 3 ba) 0)) 1 (0 : Int64)) 4 to) 5 (mo + (1 : Int64))) 7 ((((ch * (31 : Int64)) + ((nI 4).toInt64)) + ((7 : Int64) * a.toInt64)) ^^^ b.toInt64)))))] H := hP
      have hD : va_D zA [(mm, .inr (8, [.int mp, .int co, .int (nI n), .ref p1, .ref p2, .ref p3, .ref p4, .ref p5, .int (nI un), .ref p6, .ref p7, .ref p8, .int cm, .ref p9, .ref p10, .ref p11, .int ope, .ref p12, .ref p13, .ref p14, .ref p15, .ref p16, .ref p17, .ref p18, .ref p19, .ref p20, .ref p21, .int (nI he), .ref p22])), (p16, .inl (cL, 8, .inr (.inl (vp_updL (vp_updL (vp_updL (vp_updL (vp_updL (vp_updL (vp_updL SA 2 (SA 2)) 3 ba) 0 ((vp_updL (vp_updL SA 2 (SA 2)) 3 ba) 0)) 1 (0 : Int64)) 4 to) 5 (mo + (1 : Int64))) 7 ((((ch * (31 : Int64)) + ((nI 4).toInt64)) + ((7 : Int64) * a.toInt64)) ^^^ b.toInt64)))))] := hD
      exact us_vret hQ (by decide) (by decide) hx hb hr hlk hK hS (vp_updL (vp_updL (vp_updL (vp_updL (vp_updL (vp_updL (vp_updL SA 2 (SA 2)) 3 ba) 0 ((vp_updL (vp_updL SA 2 (SA 2)) 3 ba) 0)) 1 (0 : Int64)) 4 to) 5 (mo + (1 : Int64))) 7 ((((ch * (31 : Int64)) + ((nI 4).toInt64)) + ((7 : Int64) * a.toInt64)) ^^^ b.toInt64)) rfl (by first | (have cz := us_mx1 cx; refine ⟨?_, ?_, ?_, ?_, ?_, ?_, ?_, ?_⟩ <;> simp [us_chg, us_cnt, vp_updL, us_bl, s0, s1, s2, s3, s4, s5, s6, s7, cz]; done) | (have cz := us_mx2 cx; refine ⟨?_, ?_, ?_, ?_, ?_, ?_, ?_, ?_⟩ <;> simp [us_chg, us_cnt, vp_updL, us_bl, s0, s1, s2, s3, s4, s5, s6, s7, cz]; done)) hP hD d_M_change_212
    · refine lv_aload_n hx hb d_M_change_151 rfl (lv_at hl 1 rfl) ?_
      refine va_get (D := (dC, dI)) (ci := 8) (v := .ref p16) (C := "UpcastStreamsModel") (T := F_M) (N := 29) hx hb hts in_M hown hK hP 0 rfl rfl 21 (by decide) (hts _ uw_3_152) (fun _ h9 => h9) rfl d_M_change_152 ?_
      refine lv_iconst (v := (3 : Int32)) hx hb d_M_change_155 (by decide) ?_
      refine us_lald (j := 3) hx hb hK hP 1 1 rfl rfl (by unfold vp_in; decide) (by decide) d_M_change_156 ?_
      refine us_topl (show ((vp_updL (vp_updL (vp_updL (vp_updL SA 2 (SA 2)) 3 ba) 0 ((vp_updL (vp_updL SA 2 (SA 2)) 3 ba) 0)) 1 (0 : Int64)) 3) = ba from by simp [vp_updL, s3]) ?_
      refine lv_goto (tgt := 166) hx hb d_M_change_157 (by decide) ?_
      refine us_last (j := 4) hx hb hK hP hD hS 1 1 rfl rfl (by unfold vp_in; decide) (by decide) d_M_change_166 (fun H locs hP hD hS => ?_)
      have hP : va_P (dC, dI) vwCl [(mm, .inr (8, [.int mp, .int co, .int (nI n), .ref p1, .ref p2, .ref p3, .ref p4, .ref p5, .int (nI un), .ref p6, .ref p7, .ref p8, .int cm, .ref p9, .ref p10, .ref p11, .int ope, .ref p12, .ref p13, .ref p14, .ref p15, .ref p16, .ref p17, .ref p18, .ref p19, .ref p20, .ref p21, .int (nI he), .ref p22])), (p16, .inl (cL, 8, .inr (.inl (vp_updL (vp_updL (vp_updL (vp_updL (vp_updL SA 2 (SA 2)) 3 ba) 0 ((vp_updL (vp_updL SA 2 (SA 2)) 3 ba) 0)) 1 (0 : Int64)) 4 ba))))] H := hP
      have hD : va_D zA [(mm, .inr (8, [.int mp, .int co, .int (nI n), .ref p1, .ref p2, .ref p3, .ref p4, .ref p5, .int (nI un), .ref p6, .ref p7, .ref p8, .int cm, .ref p9, .ref p10, .ref p11, .int ope, .ref p12, .ref p13, .ref p14, .ref p15, .ref p16, .ref p17, .ref p18, .ref p19, .ref p20, .ref p21, .int (nI he), .ref p22])), (p16, .inl (cL, 8, .inr (.inl (vp_updL (vp_updL (vp_updL (vp_updL (vp_updL SA 2 (SA 2)) 3 ba) 0 ((vp_updL (vp_updL SA 2 (SA 2)) 3 ba) 0)) 1 (0 : Int64)) 4 ba))))] := hD
      refine lv_aload_n hx hb d_M_change_167 rfl (lv_at hl 1 rfl) ?_
      refine va_get (D := (dC, dI)) (ci := 8) (v := .ref p16) (C := "UpcastStreamsModel") (T := F_M) (N := 29) hx hb hts in_M hown hK hP 0 rfl rfl 21 (by decide) (hts _ uw_3_152) (fun _ h9 => h9) rfl d_M_change_168 ?_
      refine lv_iconst (v := (5 : Int32)) hx hb d_M_change_171 (by decide) ?_
      refine lv_aload_n hx hb d_M_change_172 rfl (lv_at hl 1 rfl) ?_
      refine va_get (D := (dC, dI)) (ci := 8) (v := .ref p16) (C := "UpcastStreamsModel") (T := F_M) (N := 29) hx hb hts in_M hown hK hP 0 rfl rfl 21 (by decide) (hts _ uw_3_152) (fun _ h9 => h9) rfl d_M_change_173 ?_
      refine lv_iconst (v := (5 : Int32)) hx hb d_M_change_176 (by decide) ?_
      refine us_lald (j := 5) hx hb hK hP 1 1 rfl rfl (by unfold vp_in; decide) (by decide) d_M_change_177 ?_
      refine us_topl (show ((vp_updL (vp_updL (vp_updL (vp_updL (vp_updL SA 2 (SA 2)) 3 ba) 0 ((vp_updL (vp_updL SA 2 (SA 2)) 3 ba) 0)) 1 (0 : Int64)) 4 ba) 5) = mo from by simp [vp_updL, s5]) ?_
      refine lv_lconst (v := (1 : Int64)) hx hb d_M_change_178 (by decide) ?_
      refine lv_ladd hx hb d_M_change_179 ?_
      refine us_last (j := 5) hx hb hK hP hD hS 1 1 rfl rfl (by unfold vp_in; decide) (by decide) d_M_change_180 (fun H locs hP hD hS => ?_)
      have hP : va_P (dC, dI) vwCl [(mm, .inr (8, [.int mp, .int co, .int (nI n), .ref p1, .ref p2, .ref p3, .ref p4, .ref p5, .int (nI un), .ref p6, .ref p7, .ref p8, .int cm, .ref p9, .ref p10, .ref p11, .int ope, .ref p12, .ref p13, .ref p14, .ref p15, .ref p16, .ref p17, .ref p18, .ref p19, .ref p20, .ref p21, .int (nI he), .ref p22])), (p16, .inl (cL, 8, .inr (.inl (vp_updL (vp_updL (vp_updL (vp_updL (vp_updL (vp_updL SA 2 (SA 2)) 3 ba) 0 ((vp_updL (vp_updL SA 2 (SA 2)) 3 ba) 0)) 1 (0 : Int64)) 4 ba) 5 (mo + (1 : Int64))))))] H := hP
      have hD : va_D zA [(mm, .inr (8, [.int mp, .int co, .int (nI n), .ref p1, .ref p2, .ref p3, .ref p4, .ref p5, .int (nI un), .ref p6, .ref p7, .ref p8, .int cm, .ref p9, .ref p10, .ref p11, .int ope, .ref p12, .ref p13, .ref p14, .ref p15, .ref p16, .ref p17, .ref p18, .ref p19, .ref p20, .ref p21, .int (nI he), .ref p22])), (p16, .inl (cL, 8, .inr (.inl (vp_updL (vp_updL (vp_updL (vp_updL (vp_updL (vp_updL SA 2 (SA 2)) 3 ba) 0 ((vp_updL (vp_updL SA 2 (SA 2)) 3 ba) 0)) 1 (0 : Int64)) 4 ba) 5 (mo + (1 : Int64))))))] := hD
      refine lv_aload_n hx hb d_M_change_181 rfl (lv_at hl 1 rfl) ?_
      refine va_get (D := (dC, dI)) (ci := 8) (v := .ref p16) (C := "UpcastStreamsModel") (T := F_M) (N := 29) hx hb hts in_M hown hK hP 0 rfl rfl 21 (by decide) (hts _ uw_3_152) (fun _ h9 => h9) rfl d_M_change_182 ?_
      refine lv_bipush (v := (7 : Int32)) hx hb d_M_change_185 (by decide) ?_
      refine lv_aload_n hx hb d_M_change_187 rfl (lv_at hl 1 rfl) ?_
      refine va_get (D := (dC, dI)) (ci := 8) (v := .ref p16) (C := "UpcastStreamsModel") (T := F_M) (N := 29) hx hb hts in_M hown hK hP 0 rfl rfl 21 (by decide) (hts _ uw_3_152) (fun _ h9 => h9) rfl d_M_change_188 ?_
      refine lv_bipush (v := (7 : Int32)) hx hb d_M_change_191 (by decide) ?_
      refine us_lald (j := 7) hx hb hK hP 1 1 rfl rfl (by unfold vp_in; decide) (by decide) d_M_change_193 ?_
      refine us_topl (show ((vp_updL (vp_updL (vp_updL (vp_updL (vp_updL (vp_updL SA 2 (SA 2)) 3 ba) 0 ((vp_updL (vp_updL SA 2 (SA 2)) 3 ba) 0)) 1 (0 : Int64)) 4 ba) 5 (mo + (1 : Int64))) 7) = ch from by simp [vp_updL, s7]) ?_
      refine lv_ldc2 (v := (31 : Int64)) hx hb hown (hts _ uw_4_38) d_M_change_194 ?_
      refine lv_lmul hx hb d_M_change_197 ?_
      refine lv_iload_n hx hb d_M_change_198 rfl (lv_at hl 2 rfl) ?_
      refine lv_i2l (v := (nI 4).toInt64) hx hb d_M_change_199 rfl ?_
      refine lv_ladd hx hb d_M_change_200 ?_
      refine lv_ldc2 (v := (7 : Int64)) hx hb hown (hts _ uw_4_39) d_M_change_201 ?_
      refine lv_iload_n hx hb d_M_change_204 rfl (lv_at hl 3 rfl) ?_
      refine lv_i2l (v := a.toInt64) hx hb d_M_change_205 rfl ?_
      refine lv_lmul hx hb d_M_change_206 ?_
      refine lv_ladd hx hb d_M_change_207 ?_
      refine lv_iload_n hx hb d_M_change_208 rfl (lv_at hl 4 rfl) ?_
      refine lv_i2l (v := b.toInt64) hx hb d_M_change_209 rfl ?_
      refine lv_lxor hx hb d_M_change_210 ?_
      refine us_last (j := 7) hx hb hK hP hD hS 1 1 rfl rfl (by unfold vp_in; decide) (by decide) d_M_change_211 (fun H locs hP hD hS => ?_)
      have hP : va_P (dC, dI) vwCl [(mm, .inr (8, [.int mp, .int co, .int (nI n), .ref p1, .ref p2, .ref p3, .ref p4, .ref p5, .int (nI un), .ref p6, .ref p7, .ref p8, .int cm, .ref p9, .ref p10, .ref p11, .int ope, .ref p12, .ref p13, .ref p14, .ref p15, .ref p16, .ref p17, .ref p18, .ref p19, .ref p20, .ref p21, .int (nI he), .ref p22])), (p16, .inl (cL, 8, .inr (.inl (vp_updL (vp_updL (vp_updL (vp_updL (vp_updL (vp_updL (vp_updL SA 2 (SA 2)) 3 ba) 0 ((vp_updL (vp_updL SA 2 (SA 2)) 3 ba) 0)) 1 (0 : Int64)) 4 ba) 5 (mo + (1 : Int64))) 7 ((((ch * (31 : Int64)) + ((nI 4).toInt64)) + ((7 : Int64) * a.toInt64)) ^^^ b.toInt64)))))] H := hP
      have hD : va_D zA [(mm, .inr (8, [.int mp, .int co, .int (nI n), .ref p1, .ref p2, .ref p3, .ref p4, .ref p5, .int (nI un), .ref p6, .ref p7, .ref p8, .int cm, .ref p9, .ref p10, .ref p11, .int ope, .ref p12, .ref p13, .ref p14, .ref p15, .ref p16, .ref p17, .ref p18, .ref p19, .ref p20, .ref p21, .int (nI he), .ref p22])), (p16, .inl (cL, 8, .inr (.inl (vp_updL (vp_updL (vp_updL (vp_updL (vp_updL (vp_updL (vp_updL SA 2 (SA 2)) 3 ba) 0 ((vp_updL (vp_updL SA 2 (SA 2)) 3 ba) 0)) 1 (0 : Int64)) 4 ba) 5 (mo + (1 : Int64))) 7 ((((ch * (31 : Int64)) + ((nI 4).toInt64)) + ((7 : Int64) * a.toInt64)) ^^^ b.toInt64)))))] := hD
      exact us_vret hQ (by decide) (by decide) hx hb hr hlk hK hS (vp_updL (vp_updL (vp_updL (vp_updL (vp_updL (vp_updL (vp_updL SA 2 (SA 2)) 3 ba) 0 ((vp_updL (vp_updL SA 2 (SA 2)) 3 ba) 0)) 1 (0 : Int64)) 4 ba) 5 (mo + (1 : Int64))) 7 ((((ch * (31 : Int64)) + ((nI 4).toInt64)) + ((7 : Int64) * a.toInt64)) ^^^ b.toInt64)) rfl (by first | (have cz := us_mx1 cx; refine ⟨?_, ?_, ?_, ?_, ?_, ?_, ?_, ?_⟩ <;> simp [us_chg, us_cnt, vp_updL, us_bl, s0, s1, s2, s3, s4, s5, s6, s7, cz]; done) | (have cz := us_mx2 cx; refine ⟨?_, ?_, ?_, ?_, ?_, ?_, ?_, ?_⟩ <;> simp [us_chg, us_cnt, vp_updL, us_bl, s0, s1, s2, s3, s4, s5, s6, s7, cz]; done)) hP hD d_M_change_212
  · refine lv_aload_n hx hb d_M_change_0 rfl (lv_at hl 0 rfl) ?_
    refine va_get (D := (dC, dI)) (ci := 8) (v := .ref p16) (C := "UpcastStreamsModel") (T := F_M) (N := 29) hx hb hts in_M hown hK hP 0 rfl rfl 21 (by decide) (hts _ uw_3_152) (fun _ h9 => h9) rfl d_M_change_1 ?_
    refine lv_iconst (v := (3 : Int32)) hx hb d_M_change_4 (by decide) ?_
    refine us_lald (j := 3) hx hb hK hP 1 1 rfl rfl (by unfold vp_in; decide) (by decide) d_M_change_5 ?_
    refine us_topl (show (SA 3) = ba from s3) ?_
    refine lv_lstore (lv' := [(4, .long ba), (0, .ref mm), (1, .int (nI 5)), (2, .int a), (3, .int b)]) hx hb d_M_change_6 hl (by decide) rfl (fun ls hl => ?_)
    refine lv_aload_n hx hb d_M_change_8 rfl (lv_at hl 1 rfl) ?_
    refine va_get (D := (dC, dI)) (ci := 8) (v := .ref p16) (C := "UpcastStreamsModel") (T := F_M) (N := 29) hx hb hts in_M hown hK hP 0 rfl rfl 21 (by decide) (hts _ uw_3_152) (fun _ h9 => h9) rfl d_M_change_9 ?_
    refine lv_iconst (v := (2 : Int32)) hx hb d_M_change_12 (by decide) ?_
    refine lv_iload_n hx hb d_M_change_13 rfl (lv_at hl 2 rfl) ?_
    refine lv_if_ne (tgt := 22) hx hb d_M_change_14 (by decide) (fun c41 => ?_) (fun h => absurd h (by decide))
    refine lv_aload_n hx hb d_M_change_22 rfl (lv_at hl 1 rfl) ?_
    refine va_get (D := (dC, dI)) (ci := 8) (v := .ref p16) (C := "UpcastStreamsModel") (T := F_M) (N := 29) hx hb hts in_M hown hK hP 0 rfl rfl 21 (by decide) (hts _ uw_3_152) (fun _ h9 => h9) rfl d_M_change_23 ?_
    refine lv_iconst (v := (2 : Int32)) hx hb d_M_change_26 (by decide) ?_
    refine us_lald (j := 2) hx hb hK hP 1 1 rfl rfl (by unfold vp_in; decide) (by decide) d_M_change_27 ?_
    refine us_last (j := 2) hx hb hK hP hD hS 1 1 rfl rfl (by unfold vp_in; decide) (by decide) d_M_change_28 (fun H locs hP hD hS => ?_)
    have hP : va_P (dC, dI) vwCl [(mm, .inr (8, [.int mp, .int co, .int (nI n), .ref p1, .ref p2, .ref p3, .ref p4, .ref p5, .int (nI un), .ref p6, .ref p7, .ref p8, .int cm, .ref p9, .ref p10, .ref p11, .int ope, .ref p12, .ref p13, .ref p14, .ref p15, .ref p16, .ref p17, .ref p18, .ref p19, .ref p20, .ref p21, .int (nI he), .ref p22])), (p16, .inl (cL, 8, .inr (.inl (vp_updL SA 2 (SA 2)))))] H := hP
    have hD : va_D zA [(mm, .inr (8, [.int mp, .int co, .int (nI n), .ref p1, .ref p2, .ref p3, .ref p4, .ref p5, .int (nI un), .ref p6, .ref p7, .ref p8, .int cm, .ref p9, .ref p10, .ref p11, .int ope, .ref p12, .ref p13, .ref p14, .ref p15, .ref p16, .ref p17, .ref p18, .ref p19, .ref p20, .ref p21, .int (nI he), .ref p22])), (p16, .inl (cL, 8, .inr (.inl (vp_updL SA 2 (SA 2)))))] := hD
    refine lv_aload_n hx hb d_M_change_29 rfl (lv_at hl 1 rfl) ?_
    refine va_get (D := (dC, dI)) (ci := 8) (v := .ref p16) (C := "UpcastStreamsModel") (T := F_M) (N := 29) hx hb hts in_M hown hK hP 0 rfl rfl 21 (by decide) (hts _ uw_3_152) (fun _ h9 => h9) rfl d_M_change_30 ?_
    refine lv_iconst (v := (3 : Int32)) hx hb d_M_change_33 (by decide) ?_
    refine lv_iload_n hx hb d_M_change_34 rfl (lv_at hl 2 rfl) ?_
    refine lv_if_ne (tgt := 42) hx hb d_M_change_35 (by decide) (fun c42 => ?_) (fun h => absurd h (by decide))
    refine lv_iload_n hx hb d_M_change_42 rfl (lv_at hl 2 rfl) ?_
    refine lv_iconst (v := (1 : Int32)) hx hb d_M_change_43 (by decide) ?_
    refine lv_icmp_ne (tgt := 55) hx hb d_M_change_44 (by decide) (fun c43 => ?_) (fun h => absurd h (by decide))
    refine lv_iload_n hx hb d_M_change_55 rfl (lv_at hl 2 rfl) ?_
    refine lv_iconst (v := (2 : Int32)) hx hb d_M_change_56 (by decide) ?_
    refine lv_icmp_ne (tgt := 68) hx hb d_M_change_57 (by decide) (fun c44 => ?_) (fun h => absurd h (by decide))
    refine lv_lload hx hb d_M_change_68 (lv_at hl 0 rfl) ?_
    refine us_last (j := 3) hx hb hK hP hD hS 1 1 rfl rfl (by unfold vp_in; decide) (by decide) d_M_change_70 (fun H locs hP hD hS => ?_)
    have hP : va_P (dC, dI) vwCl [(mm, .inr (8, [.int mp, .int co, .int (nI n), .ref p1, .ref p2, .ref p3, .ref p4, .ref p5, .int (nI un), .ref p6, .ref p7, .ref p8, .int cm, .ref p9, .ref p10, .ref p11, .int ope, .ref p12, .ref p13, .ref p14, .ref p15, .ref p16, .ref p17, .ref p18, .ref p19, .ref p20, .ref p21, .int (nI he), .ref p22])), (p16, .inl (cL, 8, .inr (.inl (vp_updL (vp_updL SA 2 (SA 2)) 3 ba))))] H := hP
    have hD : va_D zA [(mm, .inr (8, [.int mp, .int co, .int (nI n), .ref p1, .ref p2, .ref p3, .ref p4, .ref p5, .int (nI un), .ref p6, .ref p7, .ref p8, .int cm, .ref p9, .ref p10, .ref p11, .int ope, .ref p12, .ref p13, .ref p14, .ref p15, .ref p16, .ref p17, .ref p18, .ref p19, .ref p20, .ref p21, .int (nI he), .ref p22])), (p16, .inl (cL, 8, .inr (.inl (vp_updL (vp_updL SA 2 (SA 2)) 3 ba))))] := hD
    refine lv_aload_n hx hb d_M_change_71 rfl (lv_at hl 1 rfl) ?_
    refine va_get (D := (dC, dI)) (ci := 8) (v := .ref p16) (C := "UpcastStreamsModel") (T := F_M) (N := 29) hx hb hts in_M hown hK hP 0 rfl rfl 21 (by decide) (hts _ uw_3_152) (fun _ h9 => h9) rfl d_M_change_72 ?_
    refine lv_iconst (v := (0 : Int32)) hx hb d_M_change_75 (by decide) ?_
    refine lv_iload_n hx hb d_M_change_76 rfl (lv_at hl 2 rfl) ?_
    refine lv_if_ne (tgt := 84) hx hb d_M_change_77 (by decide) (fun c45 => ?_) (fun h => absurd h (by decide))
    refine lv_iload_n hx hb d_M_change_84 rfl (lv_at hl 2 rfl) ?_
    refine lv_iconst (v := (5 : Int32)) hx hb d_M_change_85 (by decide) ?_
    refine lv_icmp_ne (tgt := 93) hx hb d_M_change_86 (by decide) (fun h => absurd h (by decide)) (fun c46 => ?_)
    refine lv_lconst (v := (0 : Int64)) hx hb d_M_change_89 (by decide) ?_
    refine lv_goto (tgt := 99) hx hb d_M_change_90 (by decide) ?_
    refine us_last (j := 0) hx hb hK hP hD hS 1 1 rfl rfl (by unfold vp_in; decide) (by decide) d_M_change_99 (fun H locs hP hD hS => ?_)
    have hP : va_P (dC, dI) vwCl [(mm, .inr (8, [.int mp, .int co, .int (nI n), .ref p1, .ref p2, .ref p3, .ref p4, .ref p5, .int (nI un), .ref p6, .ref p7, .ref p8, .int cm, .ref p9, .ref p10, .ref p11, .int ope, .ref p12, .ref p13, .ref p14, .ref p15, .ref p16, .ref p17, .ref p18, .ref p19, .ref p20, .ref p21, .int (nI he), .ref p22])), (p16, .inl (cL, 8, .inr (.inl (vp_updL (vp_updL (vp_updL SA 2 (SA 2)) 3 ba) 0 (0 : Int64)))))] H := hP
    have hD : va_D zA [(mm, .inr (8, [.int mp, .int co, .int (nI n), .ref p1, .ref p2, .ref p3, .ref p4, .ref p5, .int (nI un), .ref p6, .ref p7, .ref p8, .int cm, .ref p9, .ref p10, .ref p11, .int ope, .ref p12, .ref p13, .ref p14, .ref p15, .ref p16, .ref p17, .ref p18, .ref p19, .ref p20, .ref p21, .int (nI he), .ref p22])), (p16, .inl (cL, 8, .inr (.inl (vp_updL (vp_updL (vp_updL SA 2 (SA 2)) 3 ba) 0 (0 : Int64)))))] := hD
    refine lv_aload_n hx hb d_M_change_100 rfl (lv_at hl 1 rfl) ?_
    refine va_get (D := (dC, dI)) (ci := 8) (v := .ref p16) (C := "UpcastStreamsModel") (T := F_M) (N := 29) hx hb hts in_M hown hK hP 0 rfl rfl 21 (by decide) (hts _ uw_3_152) (fun _ h9 => h9) rfl d_M_change_101 ?_
    refine lv_iconst (v := (1 : Int32)) hx hb d_M_change_104 (by decide) ?_
    refine lv_iload_n hx hb d_M_change_105 rfl (lv_at hl 2 rfl) ?_
    refine lv_iconst (v := (3 : Int32)) hx hb d_M_change_106 (by decide) ?_
    refine lv_icmp_ne (tgt := 114) hx hb d_M_change_107 (by decide) (fun c47 => ?_) (fun h => absurd h (by decide))
    refine lv_iload_n hx hb d_M_change_114 rfl (lv_at hl 2 rfl) ?_
    refine lv_iconst (v := (4 : Int32)) hx hb d_M_change_115 (by decide) ?_
    refine lv_icmp_ne (tgt := 123) hx hb d_M_change_116 (by decide) (fun c48 => ?_) (fun h => absurd h (by decide))
    refine lv_aload_n hx hb d_M_change_123 rfl (lv_at hl 1 rfl) ?_
    refine va_get (D := (dC, dI)) (ci := 8) (v := .ref p16) (C := "UpcastStreamsModel") (T := F_M) (N := 29) hx hb hts in_M hown hK hP 0 rfl rfl 21 (by decide) (hts _ uw_3_152) (fun _ h9 => h9) rfl d_M_change_124 ?_
    refine lv_iconst (v := (1 : Int32)) hx hb d_M_change_127 (by decide) ?_
    refine us_lald (j := 1) hx hb hK hP 1 1 rfl rfl (by unfold vp_in; decide) (by decide) d_M_change_128 ?_
    refine us_last (j := 1) hx hb hK hP hD hS 1 1 rfl rfl (by unfold vp_in; decide) (by decide) d_M_change_129 (fun H locs hP hD hS => ?_)
    have hP : va_P (dC, dI) vwCl [(mm, .inr (8, [.int mp, .int co, .int (nI n), .ref p1, .ref p2, .ref p3, .ref p4, .ref p5, .int (nI un), .ref p6, .ref p7, .ref p8, .int cm, .ref p9, .ref p10, .ref p11, .int ope, .ref p12, .ref p13, .ref p14, .ref p15, .ref p16, .ref p17, .ref p18, .ref p19, .ref p20, .ref p21, .int (nI he), .ref p22])), (p16, .inl (cL, 8, .inr (.inl (vp_updL (vp_updL (vp_updL (vp_updL SA 2 (SA 2)) 3 ba) 0 (0 : Int64)) 1 ((vp_updL (vp_updL (vp_updL SA 2 (SA 2)) 3 ba) 0 (0 : Int64)) 1)))))] H := hP
    have hD : va_D zA [(mm, .inr (8, [.int mp, .int co, .int (nI n), .ref p1, .ref p2, .ref p3, .ref p4, .ref p5, .int (nI un), .ref p6, .ref p7, .ref p8, .int cm, .ref p9, .ref p10, .ref p11, .int ope, .ref p12, .ref p13, .ref p14, .ref p15, .ref p16, .ref p17, .ref p18, .ref p19, .ref p20, .ref p21, .int (nI he), .ref p22])), (p16, .inl (cL, 8, .inr (.inl (vp_updL (vp_updL (vp_updL (vp_updL SA 2 (SA 2)) 3 ba) 0 (0 : Int64)) 1 ((vp_updL (vp_updL (vp_updL SA 2 (SA 2)) 3 ba) 0 (0 : Int64)) 1)))))] := hD
    refine lv_aload_n hx hb d_M_change_130 rfl (lv_at hl 1 rfl) ?_
    refine va_get (D := (dC, dI)) (ci := 8) (v := .ref p16) (C := "UpcastStreamsModel") (T := F_M) (N := 29) hx hb hts in_M hown hK hP 0 rfl rfl 21 (by decide) (hts _ uw_3_152) (fun _ h9 => h9) rfl d_M_change_131 ?_
    refine lv_iconst (v := (4 : Int32)) hx hb d_M_change_134 (by decide) ?_
    refine lv_aload_n hx hb d_M_change_135 rfl (lv_at hl 1 rfl) ?_
    refine va_get (D := (dC, dI)) (ci := 8) (v := .ref p16) (C := "UpcastStreamsModel") (T := F_M) (N := 29) hx hb hts in_M hown hK hP 0 rfl rfl 21 (by decide) (hts _ uw_3_152) (fun _ h9 => h9) rfl d_M_change_136 ?_
    refine lv_iconst (v := (3 : Int32)) hx hb d_M_change_139 (by decide) ?_
    refine us_lald (j := 3) hx hb hK hP 1 1 rfl rfl (by unfold vp_in; decide) (by decide) d_M_change_140 ?_
    refine us_topl (show ((vp_updL (vp_updL (vp_updL (vp_updL SA 2 (SA 2)) 3 ba) 0 (0 : Int64)) 1 ((vp_updL (vp_updL (vp_updL SA 2 (SA 2)) 3 ba) 0 (0 : Int64)) 1)) 3) = ba from by simp [vp_updL, s3]) ?_
    refine lv_aload_n hx hb d_M_change_141 rfl (lv_at hl 1 rfl) ?_
    refine va_get (D := (dC, dI)) (ci := 8) (v := .ref p16) (C := "UpcastStreamsModel") (T := F_M) (N := 29) hx hb hts in_M hown hK hP 0 rfl rfl 21 (by decide) (hts _ uw_3_152) (fun _ h9 => h9) rfl d_M_change_142 ?_
    refine lv_iconst (v := (4 : Int32)) hx hb d_M_change_145 (by decide) ?_
    refine us_lald (j := 4) hx hb hK hP 1 1 rfl rfl (by unfold vp_in; decide) (by decide) d_M_change_146 ?_
    refine us_topl (show ((vp_updL (vp_updL (vp_updL (vp_updL SA 2 (SA 2)) 3 ba) 0 (0 : Int64)) 1 ((vp_updL (vp_updL (vp_updL SA 2 (SA 2)) 3 ba) 0 (0 : Int64)) 1)) 4) = to from by simp [vp_updL, s4]) ?_
    refine W.lcmp hx hb d_M_change_147 ?_
    refine lv_if_le (tgt := 160) hx hb d_M_change_148 (by decide) (fun cx => ?_) (fun cx => ?_)
    · refine lv_aload_n hx hb d_M_change_160 rfl (lv_at hl 1 rfl) ?_
      refine va_get (D := (dC, dI)) (ci := 8) (v := .ref p16) (C := "UpcastStreamsModel") (T := F_M) (N := 29) hx hb hts in_M hown hK hP 0 rfl rfl 21 (by decide) (hts _ uw_3_152) (fun _ h9 => h9) rfl d_M_change_161 ?_
      refine lv_iconst (v := (4 : Int32)) hx hb d_M_change_164 (by decide) ?_
      refine us_lald (j := 4) hx hb hK hP 1 1 rfl rfl (by unfold vp_in; decide) (by decide) d_M_change_165 ?_
      refine us_topl (show ((vp_updL (vp_updL (vp_updL (vp_updL SA 2 (SA 2)) 3 ba) 0 (0 : Int64)) 1 ((vp_updL (vp_updL (vp_updL SA 2 (SA 2)) 3 ba) 0 (0 : Int64)) 1)) 4) = to from by simp [vp_updL, s4]) ?_
      refine us_last (j := 4) hx hb hK hP hD hS 1 1 rfl rfl (by unfold vp_in; decide) (by decide) d_M_change_166 (fun H locs hP hD hS => ?_)
      have hP : va_P (dC, dI) vwCl [(mm, .inr (8, [.int mp, .int co, .int (nI n), .ref p1, .ref p2, .ref p3, .ref p4, .ref p5, .int (nI un), .ref p6, .ref p7, .ref p8, .int cm, .ref p9, .ref p10, .ref p11, .int ope, .ref p12, .ref p13, .ref p14, .ref p15, .ref p16, .ref p17, .ref p18, .ref p19, .ref p20, .ref p21, .int (nI he), .ref p22])), (p16, .inl (cL, 8, .inr (.inl (vp_updL (vp_updL (vp_updL (vp_updL (vp_updL SA 2 (SA 2)) 3 ba) 0 (0 : Int64)) 1 ((vp_updL (vp_updL (vp_updL SA 2 (SA 2)) 3 ba) 0 (0 : Int64)) 1)) 4 to))))] H := hP
      have hD : va_D zA [(mm, .inr (8, [.int mp, .int co, .int (nI n), .ref p1, .ref p2, .ref p3, .ref p4, .ref p5, .int (nI un), .ref p6, .ref p7, .ref p8, .int cm, .ref p9, .ref p10, .ref p11, .int ope, .ref p12, .ref p13, .ref p14, .ref p15, .ref p16, .ref p17, .ref p18, .ref p19, .ref p20, .ref p21, .int (nI he), .ref p22])), (p16, .inl (cL, 8, .inr (.inl (vp_updL (vp_updL (vp_updL (vp_updL (vp_updL SA 2 (SA 2)) 3 ba) 0 (0 : Int64)) 1 ((vp_updL (vp_updL (vp_updL SA 2 (SA 2)) 3 ba) 0 (0 : Int64)) 1)) 4 to))))] := hD
      refine lv_aload_n hx hb d_M_change_167 rfl (lv_at hl 1 rfl) ?_
      refine va_get (D := (dC, dI)) (ci := 8) (v := .ref p16) (C := "UpcastStreamsModel") (T := F_M) (N := 29) hx hb hts in_M hown hK hP 0 rfl rfl 21 (by decide) (hts _ uw_3_152) (fun _ h9 => h9) rfl d_M_change_168 ?_
      refine lv_iconst (v := (5 : Int32)) hx hb d_M_change_171 (by decide) ?_
      refine lv_aload_n hx hb d_M_change_172 rfl (lv_at hl 1 rfl) ?_
      refine va_get (D := (dC, dI)) (ci := 8) (v := .ref p16) (C := "UpcastStreamsModel") (T := F_M) (N := 29) hx hb hts in_M hown hK hP 0 rfl rfl 21 (by decide) (hts _ uw_3_152) (fun _ h9 => h9) rfl d_M_change_173 ?_
      refine lv_iconst (v := (5 : Int32)) hx hb d_M_change_176 (by decide) ?_
      refine us_lald (j := 5) hx hb hK hP 1 1 rfl rfl (by unfold vp_in; decide) (by decide) d_M_change_177 ?_
      refine us_topl (show ((vp_updL (vp_updL (vp_updL (vp_updL (vp_updL SA 2 (SA 2)) 3 ba) 0 (0 : Int64)) 1 ((vp_updL (vp_updL (vp_updL SA 2 (SA 2)) 3 ba) 0 (0 : Int64)) 1)) 4 to) 5) = mo from by simp [vp_updL, s5]) ?_
      refine lv_lconst (v := (1 : Int64)) hx hb d_M_change_178 (by decide) ?_
      refine lv_ladd hx hb d_M_change_179 ?_
      refine us_last (j := 5) hx hb hK hP hD hS 1 1 rfl rfl (by unfold vp_in; decide) (by decide) d_M_change_180 (fun H locs hP hD hS => ?_)
      have hP : va_P (dC, dI) vwCl [(mm, .inr (8, [.int mp, .int co, .int (nI n), .ref p1, .ref p2, .ref p3, .ref p4, .ref p5, .int (nI un), .ref p6, .ref p7, .ref p8, .int cm, .ref p9, .ref p10, .ref p11, .int ope, .ref p12, .ref p13, .ref p14, .ref p15, .ref p16, .ref p17, .ref p18, .ref p19, .ref p20, .ref p21, .int (nI he), .ref p22])), (p16, .inl (cL, 8, .inr (.inl (vp_updL (vp_updL (vp_updL (vp_updL (vp_updL (vp_updL SA 2 (SA 2)) 3 ba) 0 (0 : Int64)) 1 ((vp_updL (vp_updL (vp_updL SA 2 (SA 2)) 3 ba) 0 (0 : Int64)) 1)) 4 to) 5 (mo + (1 : Int64))))))] H := hP
      have hD : va_D zA [(mm, .inr (8, [.int mp, .int co, .int (nI n), .ref p1, .ref p2, .ref p3, .ref p4, .ref p5, .int (nI un), .ref p6, .ref p7, .ref p8, .int cm, .ref p9, .ref p10, .ref p11, .int ope, .ref p12, .ref p13, .ref p14, .ref p15, .ref p16, .ref p17, .ref p18, .ref p19, .ref p20, .ref p21, .int (nI he), .ref p22])), (p16, .inl (cL, 8, .inr (.inl (vp_updL (vp_updL (vp_updL (vp_updL (vp_updL (vp_updL SA 2 (SA 2)) 3 ba) 0 (0 : Int64)) 1 ((vp_updL (vp_updL (vp_updL SA 2 (SA 2)) 3 ba) 0 (0 : Int64)) 1)) 4 to) 5 (mo + (1 : Int64))))))] := hD
      refine lv_aload_n hx hb d_M_change_181 rfl (lv_at hl 1 rfl) ?_
      refine va_get (D := (dC, dI)) (ci := 8) (v := .ref p16) (C := "UpcastStreamsModel") (T := F_M) (N := 29) hx hb hts in_M hown hK hP 0 rfl rfl 21 (by decide) (hts _ uw_3_152) (fun _ h9 => h9) rfl d_M_change_182 ?_
      refine lv_bipush (v := (7 : Int32)) hx hb d_M_change_185 (by decide) ?_
      refine lv_aload_n hx hb d_M_change_187 rfl (lv_at hl 1 rfl) ?_
      refine va_get (D := (dC, dI)) (ci := 8) (v := .ref p16) (C := "UpcastStreamsModel") (T := F_M) (N := 29) hx hb hts in_M hown hK hP 0 rfl rfl 21 (by decide) (hts _ uw_3_152) (fun _ h9 => h9) rfl d_M_change_188 ?_
      refine lv_bipush (v := (7 : Int32)) hx hb d_M_change_191 (by decide) ?_
      refine us_lald (j := 7) hx hb hK hP 1 1 rfl rfl (by unfold vp_in; decide) (by decide) d_M_change_193 ?_
      refine us_topl (show ((vp_updL (vp_updL (vp_updL (vp_updL (vp_updL (vp_updL SA 2 (SA 2)) 3 ba) 0 (0 : Int64)) 1 ((vp_updL (vp_updL (vp_updL SA 2 (SA 2)) 3 ba) 0 (0 : Int64)) 1)) 4 to) 5 (mo + (1 : Int64))) 7) = ch from by simp [vp_updL, s7]) ?_
      refine lv_ldc2 (v := (31 : Int64)) hx hb hown (hts _ uw_4_38) d_M_change_194 ?_
      refine lv_lmul hx hb d_M_change_197 ?_
      refine lv_iload_n hx hb d_M_change_198 rfl (lv_at hl 2 rfl) ?_
      refine lv_i2l (v := (nI 5).toInt64) hx hb d_M_change_199 rfl ?_
      refine lv_ladd hx hb d_M_change_200 ?_
      refine lv_ldc2 (v := (7 : Int64)) hx hb hown (hts _ uw_4_39) d_M_change_201 ?_
      refine lv_iload_n hx hb d_M_change_204 rfl (lv_at hl 3 rfl) ?_
      refine lv_i2l (v := a.toInt64) hx hb d_M_change_205 rfl ?_
      refine lv_lmul hx hb d_M_change_206 ?_
      refine lv_ladd hx hb d_M_change_207 ?_
      refine lv_iload_n hx hb d_M_change_208 rfl (lv_at hl 4 rfl) ?_
      refine lv_i2l (v := b.toInt64) hx hb d_M_change_209 rfl ?_
      refine lv_lxor hx hb d_M_change_210 ?_
      refine us_last (j := 7) hx hb hK hP hD hS 1 1 rfl rfl (by unfold vp_in; decide) (by decide) d_M_change_211 (fun H locs hP hD hS => ?_)
      have hP : va_P (dC, dI) vwCl [(mm, .inr (8, [.int mp, .int co, .int (nI n), .ref p1, .ref p2, .ref p3, .ref p4, .ref p5, .int (nI un), .ref p6, .ref p7, .ref p8, .int cm, .ref p9, .ref p10, .ref p11, .int ope, .ref p12, .ref p13, .ref p14, .ref p15, .ref p16, .ref p17, .ref p18, .ref p19, .ref p20, .ref p21, .int (nI he), .ref p22])), (p16, .inl (cL, 8, .inr (.inl (vp_updL (vp_updL (vp_updL (vp_updL (vp_updL (vp_updL (vp_updL SA 2 (SA 2)) 3 ba) 0 (0 : Int64)) 1 ((vp_updL (vp_updL (vp_updL SA 2 (SA 2)) 3 ba) 0 (0 : Int64)) 1)) 4 to) 5 (mo + (1 : Int64))) 7 ((((ch * (31 : Int64)) + ((nI 5).toInt64)) + ((7 : Int64) * a.toInt64)) ^^^ b.toInt64)))))] H := hP
      have hD : va_D zA [(mm, .inr (8, [.int mp, .int co, .int (nI n), .ref p1, .ref p2, .ref p3, .ref p4, .ref p5, .int (nI un), .ref p6, .ref p7, .ref p8, .int cm, .ref p9, .ref p10, .ref p11, .int ope, .ref p12, .ref p13, .ref p14, .ref p15, .ref p16, .ref p17, .ref p18, .ref p19, .ref p20, .ref p21, .int (nI he), .ref p22])), (p16, .inl (cL, 8, .inr (.inl (vp_updL (vp_updL (vp_updL (vp_updL (vp_updL (vp_updL (vp_updL SA 2 (SA 2)) 3 ba) 0 (0 : Int64)) 1 ((vp_updL (vp_updL (vp_updL SA 2 (SA 2)) 3 ba) 0 (0 : Int64)) 1)) 4 to) 5 (mo + (1 : Int64))) 7 ((((ch * (31 : Int64)) + ((nI 5).toInt64)) + ((7 : Int64) * a.toInt64)) ^^^ b.toInt64)))))] := hD
      exact us_vret hQ (by decide) (by decide) hx hb hr hlk hK hS (vp_updL (vp_updL (vp_updL (vp_updL (vp_updL (vp_updL (vp_updL SA 2 (SA 2)) 3 ba) 0 (0 : Int64)) 1 ((vp_updL (vp_updL (vp_updL SA 2 (SA 2)) 3 ba) 0 (0 : Int64)) 1)) 4 to) 5 (mo + (1 : Int64))) 7 ((((ch * (31 : Int64)) + ((nI 5).toInt64)) + ((7 : Int64) * a.toInt64)) ^^^ b.toInt64)) rfl (by first | (have cz := us_mx1 cx; refine ⟨?_, ?_, ?_, ?_, ?_, ?_, ?_, ?_⟩ <;> simp [us_chg, us_cnt, vp_updL, us_bl, s0, s1, s2, s3, s4, s5, s6, s7, cz]; done) | (have cz := us_mx2 cx; refine ⟨?_, ?_, ?_, ?_, ?_, ?_, ?_, ?_⟩ <;> simp [us_chg, us_cnt, vp_updL, us_bl, s0, s1, s2, s3, s4, s5, s6, s7, cz]; done)) hP hD d_M_change_212
    · refine lv_aload_n hx hb d_M_change_151 rfl (lv_at hl 1 rfl) ?_
      refine va_get (D := (dC, dI)) (ci := 8) (v := .ref p16) (C := "UpcastStreamsModel") (T := F_M) (N := 29) hx hb hts in_M hown hK hP 0 rfl rfl 21 (by decide) (hts _ uw_3_152) (fun _ h9 => h9) rfl d_M_change_152 ?_
      refine lv_iconst (v := (3 : Int32)) hx hb d_M_change_155 (by decide) ?_
      refine us_lald (j := 3) hx hb hK hP 1 1 rfl rfl (by unfold vp_in; decide) (by decide) d_M_change_156 ?_
      refine us_topl (show ((vp_updL (vp_updL (vp_updL (vp_updL SA 2 (SA 2)) 3 ba) 0 (0 : Int64)) 1 ((vp_updL (vp_updL (vp_updL SA 2 (SA 2)) 3 ba) 0 (0 : Int64)) 1)) 3) = ba from by simp [vp_updL, s3]) ?_
      refine lv_goto (tgt := 166) hx hb d_M_change_157 (by decide) ?_
      refine us_last (j := 4) hx hb hK hP hD hS 1 1 rfl rfl (by unfold vp_in; decide) (by decide) d_M_change_166 (fun H locs hP hD hS => ?_)
      have hP : va_P (dC, dI) vwCl [(mm, .inr (8, [.int mp, .int co, .int (nI n), .ref p1, .ref p2, .ref p3, .ref p4, .ref p5, .int (nI un), .ref p6, .ref p7, .ref p8, .int cm, .ref p9, .ref p10, .ref p11, .int ope, .ref p12, .ref p13, .ref p14, .ref p15, .ref p16, .ref p17, .ref p18, .ref p19, .ref p20, .ref p21, .int (nI he), .ref p22])), (p16, .inl (cL, 8, .inr (.inl (vp_updL (vp_updL (vp_updL (vp_updL (vp_updL SA 2 (SA 2)) 3 ba) 0 (0 : Int64)) 1 ((vp_updL (vp_updL (vp_updL SA 2 (SA 2)) 3 ba) 0 (0 : Int64)) 1)) 4 ba))))] H := hP
      have hD : va_D zA [(mm, .inr (8, [.int mp, .int co, .int (nI n), .ref p1, .ref p2, .ref p3, .ref p4, .ref p5, .int (nI un), .ref p6, .ref p7, .ref p8, .int cm, .ref p9, .ref p10, .ref p11, .int ope, .ref p12, .ref p13, .ref p14, .ref p15, .ref p16, .ref p17, .ref p18, .ref p19, .ref p20, .ref p21, .int (nI he), .ref p22])), (p16, .inl (cL, 8, .inr (.inl (vp_updL (vp_updL (vp_updL (vp_updL (vp_updL SA 2 (SA 2)) 3 ba) 0 (0 : Int64)) 1 ((vp_updL (vp_updL (vp_updL SA 2 (SA 2)) 3 ba) 0 (0 : Int64)) 1)) 4 ba))))] := hD
      refine lv_aload_n hx hb d_M_change_167 rfl (lv_at hl 1 rfl) ?_
      refine va_get (D := (dC, dI)) (ci := 8) (v := .ref p16) (C := "UpcastStreamsModel") (T := F_M) (N := 29) hx hb hts in_M hown hK hP 0 rfl rfl 21 (by decide) (hts _ uw_3_152) (fun _ h9 => h9) rfl d_M_change_168 ?_
      refine lv_iconst (v := (5 : Int32)) hx hb d_M_change_171 (by decide) ?_
      refine lv_aload_n hx hb d_M_change_172 rfl (lv_at hl 1 rfl) ?_
      refine va_get (D := (dC, dI)) (ci := 8) (v := .ref p16) (C := "UpcastStreamsModel") (T := F_M) (N := 29) hx hb hts in_M hown hK hP 0 rfl rfl 21 (by decide) (hts _ uw_3_152) (fun _ h9 => h9) rfl d_M_change_173 ?_
      refine lv_iconst (v := (5 : Int32)) hx hb d_M_change_176 (by decide) ?_
      refine us_lald (j := 5) hx hb hK hP 1 1 rfl rfl (by unfold vp_in; decide) (by decide) d_M_change_177 ?_
      refine us_topl (show ((vp_updL (vp_updL (vp_updL (vp_updL (vp_updL SA 2 (SA 2)) 3 ba) 0 (0 : Int64)) 1 ((vp_updL (vp_updL (vp_updL SA 2 (SA 2)) 3 ba) 0 (0 : Int64)) 1)) 4 ba) 5) = mo from by simp [vp_updL, s5]) ?_
      refine lv_lconst (v := (1 : Int64)) hx hb d_M_change_178 (by decide) ?_
      refine lv_ladd hx hb d_M_change_179 ?_
      refine us_last (j := 5) hx hb hK hP hD hS 1 1 rfl rfl (by unfold vp_in; decide) (by decide) d_M_change_180 (fun H locs hP hD hS => ?_)
      have hP : va_P (dC, dI) vwCl [(mm, .inr (8, [.int mp, .int co, .int (nI n), .ref p1, .ref p2, .ref p3, .ref p4, .ref p5, .int (nI un), .ref p6, .ref p7, .ref p8, .int cm, .ref p9, .ref p10, .ref p11, .int ope, .ref p12, .ref p13, .ref p14, .ref p15, .ref p16, .ref p17, .ref p18, .ref p19, .ref p20, .ref p21, .int (nI he), .ref p22])), (p16, .inl (cL, 8, .inr (.inl (vp_updL (vp_updL (vp_updL (vp_updL (vp_updL (vp_updL SA 2 (SA 2)) 3 ba) 0 (0 : Int64)) 1 ((vp_updL (vp_updL (vp_updL SA 2 (SA 2)) 3 ba) 0 (0 : Int64)) 1)) 4 ba) 5 (mo + (1 : Int64))))))] H := hP
      have hD : va_D zA [(mm, .inr (8, [.int mp, .int co, .int (nI n), .ref p1, .ref p2, .ref p3, .ref p4, .ref p5, .int (nI un), .ref p6, .ref p7, .ref p8, .int cm, .ref p9, .ref p10, .ref p11, .int ope, .ref p12, .ref p13, .ref p14, .ref p15, .ref p16, .ref p17, .ref p18, .ref p19, .ref p20, .ref p21, .int (nI he), .ref p22])), (p16, .inl (cL, 8, .inr (.inl (vp_updL (vp_updL (vp_updL (vp_updL (vp_updL (vp_updL SA 2 (SA 2)) 3 ba) 0 (0 : Int64)) 1 ((vp_updL (vp_updL (vp_updL SA 2 (SA 2)) 3 ba) 0 (0 : Int64)) 1)) 4 ba) 5 (mo + (1 : Int64))))))] := hD
      refine lv_aload_n hx hb d_M_change_181 rfl (lv_at hl 1 rfl) ?_
      refine va_get (D := (dC, dI)) (ci := 8) (v := .ref p16) (C := "UpcastStreamsModel") (T := F_M) (N := 29) hx hb hts in_M hown hK hP 0 rfl rfl 21 (by decide) (hts _ uw_3_152) (fun _ h9 => h9) rfl d_M_change_182 ?_
      refine lv_bipush (v := (7 : Int32)) hx hb d_M_change_185 (by decide) ?_
      refine lv_aload_n hx hb d_M_change_187 rfl (lv_at hl 1 rfl) ?_
      refine va_get (D := (dC, dI)) (ci := 8) (v := .ref p16) (C := "UpcastStreamsModel") (T := F_M) (N := 29) hx hb hts in_M hown hK hP 0 rfl rfl 21 (by decide) (hts _ uw_3_152) (fun _ h9 => h9) rfl d_M_change_188 ?_
      refine lv_bipush (v := (7 : Int32)) hx hb d_M_change_191 (by decide) ?_
      refine us_lald (j := 7) hx hb hK hP 1 1 rfl rfl (by unfold vp_in; decide) (by decide) d_M_change_193 ?_
      refine us_topl (show ((vp_updL (vp_updL (vp_updL (vp_updL (vp_updL (vp_updL SA 2 (SA 2)) 3 ba) 0 (0 : Int64)) 1 ((vp_updL (vp_updL (vp_updL SA 2 (SA 2)) 3 ba) 0 (0 : Int64)) 1)) 4 ba) 5 (mo + (1 : Int64))) 7) = ch from by simp [vp_updL, s7]) ?_
      refine lv_ldc2 (v := (31 : Int64)) hx hb hown (hts _ uw_4_38) d_M_change_194 ?_
      refine lv_lmul hx hb d_M_change_197 ?_
      refine lv_iload_n hx hb d_M_change_198 rfl (lv_at hl 2 rfl) ?_
      refine lv_i2l (v := (nI 5).toInt64) hx hb d_M_change_199 rfl ?_
      refine lv_ladd hx hb d_M_change_200 ?_
      refine lv_ldc2 (v := (7 : Int64)) hx hb hown (hts _ uw_4_39) d_M_change_201 ?_
      refine lv_iload_n hx hb d_M_change_204 rfl (lv_at hl 3 rfl) ?_
      refine lv_i2l (v := a.toInt64) hx hb d_M_change_205 rfl ?_
      refine lv_lmul hx hb d_M_change_206 ?_
      refine lv_ladd hx hb d_M_change_207 ?_
      refine lv_iload_n hx hb d_M_change_208 rfl (lv_at hl 4 rfl) ?_
      refine lv_i2l (v := b.toInt64) hx hb d_M_change_209 rfl ?_
      refine lv_lxor hx hb d_M_change_210 ?_
      refine us_last (j := 7) hx hb hK hP hD hS 1 1 rfl rfl (by unfold vp_in; decide) (by decide) d_M_change_211 (fun H locs hP hD hS => ?_)
      have hP : va_P (dC, dI) vwCl [(mm, .inr (8, [.int mp, .int co, .int (nI n), .ref p1, .ref p2, .ref p3, .ref p4, .ref p5, .int (nI un), .ref p6, .ref p7, .ref p8, .int cm, .ref p9, .ref p10, .ref p11, .int ope, .ref p12, .ref p13, .ref p14, .ref p15, .ref p16, .ref p17, .ref p18, .ref p19, .ref p20, .ref p21, .int (nI he), .ref p22])), (p16, .inl (cL, 8, .inr (.inl (vp_updL (vp_updL (vp_updL (vp_updL (vp_updL (vp_updL (vp_updL SA 2 (SA 2)) 3 ba) 0 (0 : Int64)) 1 ((vp_updL (vp_updL (vp_updL SA 2 (SA 2)) 3 ba) 0 (0 : Int64)) 1)) 4 ba) 5 (mo + (1 : Int64))) 7 ((((ch * (31 : Int64)) + ((nI 5).toInt64)) + ((7 : Int64) * a.toInt64)) ^^^ b.toInt64)))))] H := hP
      have hD : va_D zA [(mm, .inr (8, [.int mp, .int co, .int (nI n), .ref p1, .ref p2, .ref p3, .ref p4, .ref p5, .int (nI un), .ref p6, .ref p7, .ref p8, .int cm, .ref p9, .ref p10, .ref p11, .int ope, .ref p12, .ref p13, .ref p14, .ref p15, .ref p16, .ref p17, .ref p18, .ref p19, .ref p20, .ref p21, .int (nI he), .ref p22])), (p16, .inl (cL, 8, .inr (.inl (vp_updL (vp_updL (vp_updL (vp_updL (vp_updL (vp_updL (vp_updL SA 2 (SA 2)) 3 ba) 0 (0 : Int64)) 1 ((vp_updL (vp_updL (vp_updL SA 2 (SA 2)) 3 ba) 0 (0 : Int64)) 1)) 4 ba) 5 (mo + (1 : Int64))) 7 ((((ch * (31 : Int64)) + ((nI 5).toInt64)) + ((7 : Int64) * a.toInt64)) ^^^ b.toInt64)))))] := hD
      exact us_vret hQ (by decide) (by decide) hx hb hr hlk hK hS (vp_updL (vp_updL (vp_updL (vp_updL (vp_updL (vp_updL (vp_updL SA 2 (SA 2)) 3 ba) 0 (0 : Int64)) 1 ((vp_updL (vp_updL (vp_updL SA 2 (SA 2)) 3 ba) 0 (0 : Int64)) 1)) 4 ba) 5 (mo + (1 : Int64))) 7 ((((ch * (31 : Int64)) + ((nI 5).toInt64)) + ((7 : Int64) * a.toInt64)) ^^^ b.toInt64)) rfl (by first | (have cz := us_mx1 cx; refine ⟨?_, ?_, ?_, ?_, ?_, ?_, ?_, ?_⟩ <;> simp [us_chg, us_cnt, vp_updL, us_bl, s0, s1, s2, s3, s4, s5, s6, s7, cz]; done) | (have cz := us_mx2 cx; refine ⟨?_, ?_, ?_, ?_, ?_, ?_, ?_, ?_⟩ <;> simp [us_chg, us_cnt, vp_updL, us_bl, s0, s1, s2, s3, s4, s5, s6, s7, cz]; done)) hP hD d_M_change_212
