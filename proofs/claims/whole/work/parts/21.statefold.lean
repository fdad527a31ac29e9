set_option maxHeartbeats 4000000 in
set_option maxRecDepth 100000 in
theorem c_State_fold (zl : Launch) (dC : Nat → ClassId) (dI : Nat → Nat → Nat) (cI cL cS cR : ClassId) (h : Nat) (gh : Nat) (gt : Nat) (gf : Nat) (ga : Nat) (gb : Nat) (M : Nat) (n : Nat) (gT : Nat → Int32) (gF : Nat → Int32) (gU : Nat → Int32) (gV : Nat → Int32) (op : Bool) (fr : Bool) (li : Int64) (ba : Int64) (to : Int64) (mo : Int64) (od : Int64) (ch : Int64) (l : List us_Ev) (hrow : us_row gT gF gU gV l) (hn : n = l.length) (hnM : n ≤ M) (hM : M ≤ 64) (hty : ∀ z ∈ l, z.1 < 6) : us_Met (S := Bool × Bool × Int64 × Int64 × Int64 × Int64 × Int64 × Int64) zl y_State_fold w_State_fold ({ frames := 2, cells := 0, slots := 0, locals := 47 }) (dC, dI) vwCl (us_ty cI cL cS cR) [.ref h, .ref gh] [(h, .inr (1, [.int (us_b op), .int (us_b fr), .long li, .long ba, .long to, .long mo, .long od, .long ch])), (gh, .inr (0, [.ref gt, .ref gf, .ref ga, .ref gb, .int (nI n)])), (gt, .inl (cI, M, .inl gT)), (gf, .inl (cI, M, .inl gF)), (ga, .inl (cI, M, .inl gU)), (gb, .inl (cI, M, .inl gV))] (fun _ => none) (fun u => (u.1, u.2.1, u.2.2.1, u.2.2.2.1, u.2.2.2.2.1, u.2.2.2.2.2.1, u.2.2.2.2.2.2.1, u.2.2.2.2.2.2.2) = us_fold (op, fr, li, ba, to, mo, od, ch) l) (fun u => [(h, .inr (1, [.int (us_b u.1), .int (us_b u.2.1), .long u.2.2.1, .long u.2.2.2.1, .long u.2.2.2.2.1, .long u.2.2.2.2.2.1, .long u.2.2.2.2.2.2.1, .long u.2.2.2.2.2.2.2])), (gh, .inr (0, [.ref gt, .ref gf, .ref ga, .ref gb, .int (nI n)])), (gt, .inl (cI, M, .inl gT)), (gf, .inl (cI, M, .inl gF)), (ga, .inl (cI, M, .inl gU)), (gb, .inl (cI, M, .inl gV))]) := by
  refine us_ofW (cc := b_State_fold) (maxL := 3) (ret := none) (by decide) (Nat.le_of_ble_eq_true rfl) ?_
  intro zp ze zs zm args below meth zc zA ls zQ hQ hx hb hr hml hts hown hlk hin hl hK hP hD hS hA
  have hown : zs.vm.findClass "UpcastStreams$State" = some zm.cls := hown
  have hl : lv_has ls 3 [(0, .ref h), (1, .ref gh)] := hl
  obtain ⟨H, hH⟩ : ∃ H, H = zs.heap := ⟨_, rfl⟩
  rw [← hH] at hP ⊢
  have hS : va_S zA zs.heap H [] := hH ▸ hS
  generalize ([] : List Loc) = locs at hS ⊢
  refine lv_iconst (v := (0 : Int32)) hx hb d_State_fold_0 (by decide) ?_
  refine lv_istore_n (lv' := [(2, .int (0 : Int32)), (0, .ref h), (1, .ref gh)]) hx hb d_State_fold_1 rfl hl (by decide) rfl (fun ls hl => ?_)
  have loop2 : ∀ (fuel : Nat) (i : Nat) (xo : Bool) (xf : Bool) (xl : Int64) (xb : Int64) (xt : Int64) (xm : Int64) (xd : Int64) (xc : Int64) (H : Heap) (locs : List Loc) (ls : Array Slot), lv_has ls 3 [(2, .int (nI i)), (0, .ref h), (1, .ref gh)] → va_P (dC, dI) vwCl [(h, .inr (1, [.int (us_b xo), .int (us_b xf), .long xl, .long xb, .long xt, .long xm, .long xd, .long xc])), (gh, .inr (0, [.ref gt, .ref gf, .ref ga, .ref gb, .int (nI n)])), (gt, .inl (cI, M, .inl gT)), (gf, .inl (cI, M, .inl gF)), (ga, .inl (cI, M, .inl gU)), (gb, .inl (cI, M, .inl gV))] H → va_D zA [(h, .inr (1, [.int (us_b xo), .int (us_b xf), .long xl, .long xb, .long xt, .long xm, .long xd, .long xc])), (gh, .inr (0, [.ref gt, .ref gf, .ref ga, .ref gb, .int (nI n)])), (gt, .inl (cI, M, .inl gT)), (gf, .inl (cI, M, .inl gF)), (ga, .inl (cI, M, .inl gU)), (gb, .inl (cI, M, .inl gV))] → va_S zA zs.heap H locs → (i ≤ n) → ((xo, xf, xl, xb, xt, xm, xd, xc) = us_fold (op, fr, li, ba, to, mo, od, ch) (l.take i)) → n + 1 - i ≤ fuel → W zp zl ze ({ frames := 2, cells := 0, slots := 0, locals := 47 }) zs zm args below meth zc H locs 0 0 zQ (F0 zm 2 ls []) := by
    intro fuel
    induction fuel with
    | zero => intro i xo xf xl xb xt xm xd xc H locs ls hl hP hD hS hi hI hm; exact absurd hm (by omega)
    | succ fuel ih =>
      intro i xo xf xl xb xt xm xd xc H locs ls hl hP hD hS hi hI hm
      refine lv_iload_n hx hb d_State_fold_2 rfl (lv_at hl 0 rfl) ?_
      refine lv_aload_n hx hb d_State_fold_3 rfl (lv_at hl 2 rfl) ?_
      refine va_get (D := (dC, dI)) (ci := 0) (v := .int (nI n)) (C := "UpcastStreams$Row") (T := F_Row) (N := 5) hx hb hts in_Row hown hK hP 1 rfl rfl 4 (by decide) (hts _ uw_1_61) (fun _ h9 => h9) rfl d_State_fold_4 ?_
      refine lv_icmp_ge (tgt := 86) hx hb d_State_fold_7 (by decide) (fun hc => ?_) (fun hc => ?_)
      · exact us_vret hQ (by decide) (by decide) hx hb hr hlk hK hS (xo, xf, xl, xb, xt, xm, xd, xc) rfl (by rw [hI]; exact us_take_all _ (by have : ¬ i < n := fun z => absurd hc (nI_ge z (by omega)); omega)) hP hD d_State_fold_86
      · have hin2 : i < n := by rcases Nat.lt_or_ge i n with z | z; exact z; exact absurd (nI_le z (by omega)) hc
        obtain ⟨e1, he⟩ : ∃ e1, l[i]? = some e1 := ⟨l[i]'(by omega), List.getElem?_eq_getElem (by omega)⟩
        obtain ⟨r1, r2, r3, r4⟩ := hrow i e1 he
        have ht := hty e1 (List.mem_of_getElem? he)
        refine lv_aload_n hx hb d_State_fold_10 rfl (lv_at hl 1 rfl) ?_
        refine lv_aload_n hx hb d_State_fold_11 rfl (lv_at hl 2 rfl) ?_
        refine va_get (D := (dC, dI)) (ci := 0) (v := .ref gt) (C := "UpcastStreams$Row") (T := F_Row) (N := 5) hx hb hts in_Row hown hK hP 1 rfl rfl 0 (by decide) (hts _ uw_1_41) (fun _ h9 => h9) rfl d_State_fold_12 ?_
        refine lv_iload_n hx hb d_State_fold_15 rfl (lv_at hl 0 rfl) ?_
        refine us_iald (j := i) hx hb hK hP 2 0 rfl rfl (vp_in_nI (by omega) (by omega)) (nI_clamp (by omega)) d_State_fold_16 ?_
        refine us_top (show (gT i) = (nI e1.1) from r1) ?_
        refine lv_aload_n hx hb d_State_fold_17 rfl (lv_at hl 2 rfl) ?_
        refine va_get (D := (dC, dI)) (ci := 0) (v := .ref ga) (C := "UpcastStreams$Row") (T := F_Row) (N := 5) hx hb hts in_Row hown hK hP 1 rfl rfl 2 (by decide) (hts _ uw_1_50) (fun _ h9 => h9) rfl d_State_fold_18 ?_
        refine lv_iload_n hx hb d_State_fold_21 rfl (lv_at hl 0 rfl) ?_
        refine us_iald (j := i) hx hb hK hP 4 0 rfl rfl (vp_in_nI (by omega) (by omega)) (nI_clamp (by omega)) d_State_fold_22 ?_
        refine us_top (show (gU i) = e1.2.2.1 from r3) ?_
        refine us_callV (q0 := 0) (As := [.int (nI e1.1), .int e1.2.2.1]) (rest := []) ⟨hx, hb, hml, hown, hts⟩ (c_State_fits zl dC dI cI cL cS cR h e1.1 e1.2.2.1 xo xf xl xb xt xm xd xc ht) (cwV 2 hts (us_gV uw_2_214 uw_2_216 uw_p_5 uw_1_7 k_State_fits) rfl rfl rfl h_State_fits ⟨by decide, by decide⟩) hK hP hD hS hA [0] rfl (by decide) (fun _ => Nat.le_of_ble_eq_true rfl) rfl rfl rfl hl.1 rfl (Nat.le_of_ble_eq_true rfl) d_State_fold_23 ⟨by decide, by decide⟩ (fun u H locs w23 hP hD hS => ?_)
        obtain ⟨r23, rfl⟩ : ∃ z, z = u := ⟨_, rfl⟩
        have hP : va_P (dC, dI) vwCl [(h, .inr (1, [.int (us_b xo), .int (us_b xf), .long xl, .long xb, .long xt, .long xm, .long xd, .long xc])), (gh, .inr (0, [.ref gt, .ref gf, .ref ga, .ref gb, .int (nI n)])), (gt, .inl (cI, M, .inl gT)), (gf, .inl (cI, M, .inl gF)), (ga, .inl (cI, M, .inl gU)), (gb, .inl (cI, M, .inl gV))] H := hP
        have hD : va_D zA [(h, .inr (1, [.int (us_b xo), .int (us_b xf), .long xl, .long xb, .long xt, .long xm, .long xd, .long xc])), (gh, .inr (0, [.ref gt, .ref gf, .ref ga, .ref gb, .int (nI n)])), (gt, .inl (cI, M, .inl gT)), (gf, .inl (cI, M, .inl gF)), (ga, .inl (cI, M, .inl gU)), (gb, .inl (cI, M, .inl gV))] := hD
        try dsimp only at w23
        refine W.eq (g2 := F0 zm 26 ls [.int r23]) rfl ?_
        refine lv_if_eq (tgt := 70) hx hb d_State_fold_26 (by decide) (fun hz => ?_) (fun hz => ?_)
        · have hfit : ¬ us_fits (xo, xf, xl, xb, xt, xm, xd, xc) e1.1 e1.2.2.1 = true := by rw [w23] at hz; rw [us_b0 hz]; decide
          refine lv_aload_n hx hb d_State_fold_70 rfl (lv_at hl 1 rfl) ?_
          refine lv_dup hx hb d_State_fold_71 rfl ?_
          refine va_get (D := (dC, dI)) (ci := 1) (v := .long xd) (C := "UpcastStreams$State") (T := F_State) (N := 8) hx hb hts in_State hown hK hP 0 rfl rfl 6 (by decide) (hts _ uw_1_140) (fun _ h9 => h9) rfl d_State_fold_72 ?_
          refine lv_lconst (v := (1 : Int64)) hx hb d_State_fold_75 (by decide) ?_
          refine lv_ladd hx hb d_State_fold_76 ?_
          refine va_put (D := (dC, dI)) (ci := 1) (v := .long (xd + (1 : Int64))) (ty := .long) (C := "UpcastStreams$State") (T := F_State) (N := 8) hx hb hts in_State t_State t_State_ok n_State hown hK hP hD hS 0 rfl rfl 6 (by decide) (hts _ uw_1_140) (fun _ h9 => h9) rfl (by decide +kernel) rfl rfl (Nat.le_of_ble_eq_true rfl) d_State_fold_77 (fun H locs hP hD hS => ?_)
          have hP : va_P (dC, dI) vwCl [(h, .inr (1, [.int (us_b xo), .int (us_b xf), .long xl, .long xb, .long xt, .long xm, .long (xd + (1 : Int64)), .long xc])), (gh, .inr (0, [.ref gt, .ref gf, .ref ga, .ref gb, .int (nI n)])), (gt, .inl (cI, M, .inl gT)), (gf, .inl (cI, M, .inl gF)), (ga, .inl (cI, M, .inl gU)), (gb, .inl (cI, M, .inl gV))] H := hP
          have hD : va_D zA [(h, .inr (1, [.int (us_b xo), .int (us_b xf), .long xl, .long xb, .long xt, .long xm, .long (xd + (1 : Int64)), .long xc])), (gh, .inr (0, [.ref gt, .ref gf, .ref ga, .ref gb, .int (nI n)])), (gt, .inl (cI, M, .inl gT)), (gf, .inl (cI, M, .inl gF)), (ga, .inl (cI, M, .inl gU)), (gb, .inl (cI, M, .inl gV))] := hD
          refine lv_iinc (k := 0) (v := nI (i + 1)) (lv' := [(2, .int (nI (i + 1))), (0, .ref h), (1, .ref gh)]) hx hb d_State_fold_80 hl rfl (us_inc _) (by decide) rfl (fun ls hl => ?_)
          refine lv_goto (tgt := 2) hx hb d_State_fold_83 (by decide) ?_
          exact ih (i + 1) xo xf xl xb xt xm (xd + (1 : Int64)) xc H locs ls (lv_sub hl [0, 1, 2] rfl) hP hD hS (by omega) (by rw [us_take _ he, ← hI, us_f1, if_neg hfit]; rfl) (by omega)
        · have hfit : us_fits (xo, xf, xl, xb, xt, xm, xd, xc) e1.1 e1.2.2.1 = true := by rw [w23] at hz; exact us_b1 hz
          refine lv_aload_n hx hb d_State_fold_29 rfl (lv_at hl 1 rfl) ?_
          refine lv_aload_n hx hb d_State_fold_30 rfl (lv_at hl 2 rfl) ?_
          refine va_get (D := (dC, dI)) (ci := 0) (v := .ref gt) (C := "UpcastStreams$Row") (T := F_Row) (N := 5) hx hb hts in_Row hown hK hP 1 rfl rfl 0 (by decide) (hts _ uw_1_41) (fun _ h9 => h9) rfl d_State_fold_31 ?_
          refine lv_iload_n hx hb d_State_fold_34 rfl (lv_at hl 0 rfl) ?_
          refine us_iald (j := i) hx hb hK hP 2 0 rfl rfl (vp_in_nI (by omega) (by omega)) (nI_clamp (by omega)) d_State_fold_35 ?_
          refine us_top (show (gT i) = (nI e1.1) from r1) ?_
          refine lv_aload_n hx hb d_State_fold_36 rfl (lv_at hl 2 rfl) ?_
          refine va_get (D := (dC, dI)) (ci := 0) (v := .ref ga) (C := "UpcastStreams$Row") (T := F_Row) (N := 5) hx hb hts in_Row hown hK hP 1 rfl rfl 2 (by decide) (hts _ uw_1_50) (fun _ h9 => h9) rfl d_State_fold_37 ?_
          refine lv_iload_n hx hb d_State_fold_40 rfl (lv_at hl 0 rfl) ?_
          refine us_iald (j := i) hx hb hK hP 4 0 rfl rfl (vp_in_nI (by omega) (by omega)) (nI_clamp (by omega)) d_State_fold_41 ?_
          refine us_top (show (gU i) = e1.2.2.1 from r3) ?_
          refine us_callV (q0 := 0) (As := [.int (nI e1.1), .int e1.2.2.1]) (rest := []) ⟨hx, hb, hml, hown, hts⟩ (c_State_change zl dC dI cI cL cS cR h e1.1 e1.2.2.1 xo xf xl xb xt xm xd xc ht) (cwV 2 hts (us_gV uw_2_218 uw_2_220 uw_p_6 uw_1_7 k_State_change) rfl rfl rfl h_State_change ⟨by decide, by decide⟩) hK hP hD hS hA [0] rfl (by decide) (fun _ => Nat.le_of_ble_eq_true rfl) rfl rfl rfl hl.1 rfl (Nat.le_of_ble_eq_true rfl) d_State_fold_42 ⟨by decide, by decide⟩ (fun u H locs w42 hP hD hS => ?_)
          obtain ⟨op142, fr142, li142, ba142, to142, mo142, od142, ch142⟩ := u
          have hP : va_P (dC, dI) vwCl [(h, .inr (1, [.int (us_b op142), .int (us_b fr142), .long li142, .long ba142, .long to142, .long mo142, .long od142, .long ch142])), (gh, .inr (0, [.ref gt, .ref gf, .ref ga, .ref gb, .int (nI n)])), (gt, .inl (cI, M, .inl gT)), (gf, .inl (cI, M, .inl gF)), (ga, .inl (cI, M, .inl gU)), (gb, .inl (cI, M, .inl gV))] H := hP
          have hD : va_D zA [(h, .inr (1, [.int (us_b op142), .int (us_b fr142), .long li142, .long ba142, .long to142, .long mo142, .long od142, .long ch142])), (gh, .inr (0, [.ref gt, .ref gf, .ref ga, .ref gb, .int (nI n)])), (gt, .inl (cI, M, .inl gT)), (gf, .inl (cI, M, .inl gF)), (ga, .inl (cI, M, .inl gU)), (gb, .inl (cI, M, .inl gV))] := hD
          try dsimp only at w42
          refine W.eq (g2 := F0 zm 45 ls []) rfl ?_
          refine lv_aload_n hx hb d_State_fold_45 rfl (lv_at hl 1 rfl) ?_
          refine lv_aload_n hx hb d_State_fold_46 rfl (lv_at hl 2 rfl) ?_
          refine va_get (D := (dC, dI)) (ci := 0) (v := .ref gt) (C := "UpcastStreams$Row") (T := F_Row) (N := 5) hx hb hts in_Row hown hK hP 1 rfl rfl 0 (by decide) (hts _ uw_1_41) (fun _ h9 => h9) rfl d_State_fold_47 ?_
          refine lv_iload_n hx hb d_State_fold_50 rfl (lv_at hl 0 rfl) ?_
          refine us_iald (j := i) hx hb hK hP 2 0 rfl rfl (vp_in_nI (by omega) (by omega)) (nI_clamp (by omega)) d_State_fold_51 ?_
          refine us_top (show (gT i) = (nI e1.1) from r1) ?_
          refine lv_aload_n hx hb d_State_fold_52 rfl (lv_at hl 2 rfl) ?_
          refine va_get (D := (dC, dI)) (ci := 0) (v := .ref ga) (C := "UpcastStreams$Row") (T := F_Row) (N := 5) hx hb hts in_Row hown hK hP 1 rfl rfl 2 (by decide) (hts _ uw_1_50) (fun _ h9 => h9) rfl d_State_fold_53 ?_
          refine lv_iload_n hx hb d_State_fold_56 rfl (lv_at hl 0 rfl) ?_
          refine us_iald (j := i) hx hb hK hP 4 0 rfl rfl (vp_in_nI (by omega) (by omega)) (nI_clamp (by omega)) d_State_fold_57 ?_
          refine us_top (show (gU i) = e1.2.2.1 from r3) ?_
          refine lv_aload_n hx hb d_State_fold_58 rfl (lv_at hl 2 rfl) ?_
          refine va_get (D := (dC, dI)) (ci := 0) (v := .ref gb) (C := "UpcastStreams$Row") (T := F_Row) (N := 5) hx hb hts in_Row hown hK hP 1 rfl rfl 3 (by decide) (hts _ uw_1_55) (fun _ h9 => h9) rfl d_State_fold_59 ?_
          refine lv_iload_n hx hb d_State_fold_62 rfl (lv_at hl 0 rfl) ?_
          refine us_iald (j := i) hx hb hK hP 5 0 rfl rfl (vp_in_nI (by omega) (by omega)) (nI_clamp (by omega)) d_State_fold_63 ?_
          refine us_top (show (gV i) = e1.2.2.2 from r4) ?_
          refine us_callV (q0 := 0) (As := [.int (nI e1.1), .int e1.2.2.1, .int e1.2.2.2]) (rest := []) ⟨hx, hb, hml, hown, hts⟩ (c_State_count zl dC dI cI cL cS cR h e1.1 e1.2.2.1 e1.2.2.2 op142 fr142 li142 ba142 to142 mo142 od142 ch142 ht) (cwV 3 hts (us_gV uw_2_222 uw_2_224 uw_p_7 uw_1_7 k_State_count) rfl rfl rfl h_State_count ⟨by decide, by decide⟩) hK hP hD hS hA [0] rfl (by decide) (fun _ => Nat.le_of_ble_eq_true rfl) rfl rfl rfl hl.1 rfl (Nat.le_of_ble_eq_true rfl) d_State_fold_64 ⟨by decide, by decide⟩ (fun u H locs w64 hP hD hS => ?_)
          obtain ⟨op164, fr164, li164, ba164, to164, mo164, od164, ch164⟩ := u
          have hP : va_P (dC, dI) vwCl [(h, .inr (1, [.int (us_b op164), .int (us_b fr164), .long li164, .long ba164, .long to164, .long mo164, .long od164, .long ch164])), (gh, .inr (0, [.ref gt, .ref gf, .ref ga, .ref gb, .int (nI n)])), (gt, .inl (cI, M, .inl gT)), (gf, .inl (cI, M, .inl gF)), (ga, .inl (cI, M, .inl gU)), (gb, .inl (cI, M, .inl gV))] H := hP
          have hD : va_D zA [(h, .inr (1, [.int (us_b op164), .int (us_b fr164), .long li164, .long ba164, .long to164, .long mo164, .long od164, .long ch164])), (gh, .inr (0, [.ref gt, .ref gf, .ref ga, .ref gb, .int (nI n)])), (gt, .inl (cI, M, .inl gT)), (gf, .inl (cI, M, .inl gF)), (ga, .inl (cI, M, .inl gU)), (gb, .inl (cI, M, .inl gV))] := hD
          try dsimp only at w64
          refine W.eq (g2 := F0 zm 67 ls []) rfl ?_
          refine lv_goto (tgt := 80) hx hb d_State_fold_67 (by decide) ?_
          refine lv_iinc (k := 0) (v := nI (i + 1)) (lv' := [(2, .int (nI (i + 1))), (0, .ref h), (1, .ref gh)]) hx hb d_State_fold_80 hl rfl (us_inc _) (by decide) rfl (fun ls hl => ?_)
          refine lv_goto (tgt := 2) hx hb d_State_fold_83 (by decide) ?_
          exact ih (i + 1) op164 fr164 li164 ba164 to164 mo164 od164 ch164 H locs ls (lv_sub hl [0, 1, 2] rfl) hP hD hS (by omega) (by rw [us_take _ he, ← hI, us_f1, if_pos hfit, ← w42]; exact w64) (by omega)
  exact loop2 _ 0 op fr li ba to mo od ch _ _ ls (lv_sub hl [0, 1, 2] rfl) hP hD hS (Nat.zero_le _) rfl (Nat.le_refl _)
