set_option maxHeartbeats 4000000 in
set_option maxRecDepth 100000 in
theorem c_Log_append (zl : Launch) (dC : Nat → ClassId) (dI : Nat → Nat → Nat) (cI cL cS cR : ClassId) (h : Nat) (s : Nat) (k : Nat) (w : Nat) (gh : Nat) (gt : Nat) (gf : Nat) (ga : Nat) (gb : Nat) (n : Nat) (gT : Nat → Int32) (gF : Nat → Int32) (gU : Nat → Int32) (gV : Nat → Int32) (S : Nat → Int32) (K : Nat → Int32) (Z : Nat → Int32) (oh : Nat) (ot : Nat) (of : Nat) (oa : Nat) (ob : Nat) (oM : Nat) (on : Nat) (oT : Nat → Int32) (oF : Nat → Int32) (oU : Nat → Int32) (oV : Nat → Int32) (i : Nat) (j : Nat) (hn : n < 64) (hi : i < oM) (hoM : oM ≤ 64) (hj : j < 8) : us_Met (S := Unit) zl y_Log_append w_Log_append ({ frames := 2, cells := 0, slots := 0, locals := 46 }) (dC, dI) vwCl (us_ty cI cL cS cR) [.ref h, .int (nI j), .ref oh, .int (nI i)] [(h, .inr (3, [.ref gh, .ref s, .ref k, .ref w])), (gh, .inr (0, [.ref gt, .ref gf, .ref ga, .ref gb, .int (nI n)])), (gt, .inl (cI, 64, .inl gT)), (gf, .inl (cI, 64, .inl gF)), (ga, .inl (cI, 64, .inl gU)), (gb, .inl (cI, 64, .inl gV)), (s, .inl (cI, 64, .inl S)), (k, .inl (cI, 64, .inl K)), (w, .inl (cI, 8, .inl Z)), (oh, .inr (0, [.ref ot, .ref of, .ref oa, .ref ob, .int (nI on)])), (ot, .inl (cI, oM, .inl oT)), (of, .inl (cI, oM, .inl oF)), (oa, .inl (cI, oM, .inl oU)), (ob, .inl (cI, oM, .inl oV))] (fun _ => none) (fun u => True) (fun u => [(h, .inr (3, [.ref gh, .ref s, .ref k, .ref w])), (gh, .inr (0, [.ref gt, .ref gf, .ref ga, .ref gb, .int (nI (n + 1))])), (gt, .inl (cI, 64, .inl (upd gT n (oT i)))), (gf, .inl (cI, 64, .inl (upd gF n (oF i)))), (ga, .inl (cI, 64, .inl (upd gU n (oU i)))), (gb, .inl (cI, 64, .inl (upd gV n (oV i)))), (s, .inl (cI, 64, .inl (upd S n (nI j)))), (k, .inl (cI, 64, .inl (upd K n (Z j)))), (w, .inl (cI, 8, .inl (upd Z j (Z j + 1)))), (oh, .inr (0, [.ref ot, .ref of, .ref oa, .ref ob, .int (nI on)])), (ot, .inl (cI, oM, .inl oT)), (of, .inl (cI, oM, .inl oF)), (oa, .inl (cI, oM, .inl oU)), (ob, .inl (cI, oM, .inl oV))]) := by
  refine us_ofW (cc := b_Log_append) (maxL := 5) (ret := none) (by decide) (Nat.le_of_ble_eq_true rfl) ?_
  intro zp ze zs zm args below meth zc zA ls zQ hQ hx hb hr hml hts hown hlk hin hl hK hP hD hS hA
  have hown : zs.vm.findClass "UpcastStreams$Log" = some zm.cls := hown
  have hl : lv_has ls 5 [(0, .ref h), (1, .int (nI j)), (2, .ref oh), (3, .int (nI i))] := hl
  obtain ⟨H, hH⟩ : ∃ H, H = zs.heap := ⟨_, rfl⟩
  rw [← hH] at hP ⊢
  have hS : va_S zA zs.heap H [] := hH ▸ hS
  generalize ([] : List Loc) = locs at hS ⊢
  refine lv_aload_n hx hb d_Log_append_0 rfl (lv_at hl 0 rfl) ?_
  refine va_get (D := (dC, dI)) (ci := 3) (v := .ref gh) (C := "UpcastStreams$Log") (T := F_Log) (N := 4) hx hb hts in_Log hown hK hP 0 rfl rfl 0 (by decide) (hts _ uw_1_83) (fun _ h9 => h9) rfl d_Log_append_1 ?_
  refine va_get (D := (dC, dI)) (ci := 0) (v := .int (nI n)) (C := "UpcastStreams$Row") (T := F_Row) (N := 5) hx hb hts in_Row hown hK hP 1 rfl rfl 4 (by decide) (hts _ uw_1_59) (fun _ h9 => h9) rfl d_Log_append_4 ?_
  refine lv_istore (lv' := [(4, .int (nI n)), (0, .ref h), (1, .int (nI j)), (2, .ref oh), (3, .int (nI i))]) hx hb d_Log_append_7 hl (by decide) rfl (fun ls hl => ?_)
  refine lv_iload hx hb d_Log_append_9 (lv_at hl 0 rfl) ?_
  refine lv_bipush (v := (64 : Int32)) hx hb d_Log_append_11 (by decide) ?_
  refine lv_icmp_lt (tgt := 17) hx hb d_Log_append_13 (by decide) (fun c1 => ?_) (fun h => absurd (nI_lt (b := 64) hn (by omega)) h)
  refine lv_aload_n hx hb d_Log_append_17 rfl (lv_at hl 1 rfl) ?_
  refine va_get (D := (dC, dI)) (ci := 3) (v := .ref gh) (C := "UpcastStreams$Log") (T := F_Log) (N := 4) hx hb hts in_Log hown hK hP 0 rfl rfl 0 (by decide) (hts _ uw_1_83) (fun _ h9 => h9) rfl d_Log_append_18 ?_
  refine lv_aload_n hx hb d_Log_append_21 rfl (lv_at hl 3 rfl) ?_
  refine lv_iload_n hx hb d_Log_append_22 rfl (lv_at hl 4 rfl) ?_
  refine us_callV (q0 := 1) (As := [.ref oh, .int (nI i)]) (rest := []) ⟨hx, hb, hml, hown, hts⟩ (c_Row_putFrom zl dC dI cI cL cS cR gh gt gf ga gb 64 n gT gF gU gV oh ot of oa ob oM on oT oF oU oV i hn (by decide) hi hoM) (cwV 2 hts (us_gV uw_2_239 uw_2_191 uw_2_192 uw_1_3 k_Row_putFrom) rfl rfl rfl h_Row_putFrom ⟨by decide, by decide⟩) hK hP hD hS hA [1, 2, 3, 4, 5, 9, 10, 11, 12, 13] rfl (by decide) (fun _ => Nat.le_of_ble_eq_true rfl) rfl rfl rfl hl.1 rfl (Nat.le_of_ble_eq_true rfl) d_Log_append_23 ⟨by decide, by decide⟩ (fun u H locs w23 hP hD hS => ?_)
  have hP : va_P (dC, dI) vwCl [(h, .inr (3, [.ref gh, .ref s, .ref k, .ref w])), (gh, .inr (0, [.ref gt, .ref gf, .ref ga, .ref gb, .int (nI (n + 1))])), (gt, .inl (cI, 64, .inl (upd gT n (oT i)))), (gf, .inl (cI, 64, .inl (upd gF n (oF i)))), (ga, .inl (cI, 64, .inl (upd gU n (oU i)))), (gb, .inl (cI, 64, .inl (upd gV n (oV i)))), (s, .inl (cI, 64, .inl S)), (k, .inl (cI, 64, .inl K)), (w, .inl (cI, 8, .inl Z)), (oh, .inr (0, [.ref ot, .ref of, .ref oa, .ref ob, .int (nI on)])), (ot, .inl (cI, oM, .inl oT)), (of, .inl (cI, oM, .inl oF)), (oa, .inl (cI, oM, .inl oU)), (ob, .inl (cI, oM, .inl oV))] H := hP
  have hD : va_D zA [(h, .inr (3, [.ref gh, .ref s, .ref k, .ref w])), (gh, .inr (0, [.ref gt, .ref gf, .ref ga, .ref gb, .int (nI (n + 1))])), (gt, .inl (cI, 64, .inl (upd gT n (oT i)))), (gf, .inl (cI, 64, .inl (upd gF n (oF i)))), (ga, .inl (cI, 64, .inl (upd gU n (oU i)))), (gb, .inl (cI, 64, .inl (upd gV n (oV i)))), (s, .inl (cI, 64, .inl S)), (k, .inl (cI, 64, .inl K)), (w, .inl (cI, 8, .inl Z)), (oh, .inr (0, [.ref ot, .ref of, .ref oa, .ref ob, .int (nI on)])), (ot, .inl (cI, oM, .inl oT)), (of, .inl (cI, oM, .inl oF)), (oa, .inl (cI, oM, .inl oU)), (ob, .inl (cI, oM, .inl oV))] := hD
  try dsimp only at w23
  refine W.eq (g2 := F0 zm 26 ls []) rfl ?_
  refine lv_aload_n hx hb d_Log_append_26 rfl (lv_at hl 1 rfl) ?_
  refine va_get (D := (dC, dI)) (ci := 3) (v := .ref s) (C := "UpcastStreams$Log") (T := F_Log) (N := 4) hx hb hts in_Log hown hK hP 0 rfl rfl 1 (by decide) (hts _ uw_1_85) (fun _ h9 => h9) rfl d_Log_append_27 ?_
  refine lv_iload hx hb d_Log_append_30 (lv_at hl 0 rfl) ?_
  refine lv_iload_n hx hb d_Log_append_32 rfl (lv_at hl 2 rfl) ?_
  refine us_iast (j := n) hx hb hK hP hD hS 6 0 rfl rfl (vp_in_nI (by omega) (by omega)) (nI_clamp (by omega)) d_Log_append_33 (fun H locs hP hD hS => ?_)
  have hP : va_P (dC, dI) vwCl [(h, .inr (3, [.ref gh, .ref s, .ref k, .ref w])), (gh, .inr (0, [.ref gt, .ref gf, .ref ga, .ref gb, .int (nI (n + 1))])), (gt, .inl (cI, 64, .inl (upd gT n (oT i)))), (gf, .inl (cI, 64, .inl (upd gF n (oF i)))), (ga, .inl (cI, 64, .inl (upd gU n (oU i)))), (gb, .inl (cI, 64, .inl (upd gV n (oV i)))), (s, .inl (cI, 64, .inl (upd S n (nI j)))), (k, .inl (cI, 64, .inl K)), (w, .inl (cI, 8, .inl Z)), (oh, .inr (0, [.ref ot, .ref of, .ref oa, .ref ob, .int (nI on)])), (ot, .inl (cI, oM, .inl oT)), (of, .inl (cI, oM, .inl oF)), (oa, .inl (cI, oM, .inl oU)), (ob, .inl (cI, oM, .inl oV))] H := hP
  have hD : va_D zA [(h, .inr (3, [.ref gh, .ref s, .ref k, .ref w])), (gh, .inr (0, [.ref gt, .ref gf, .ref ga, .ref gb, .int (nI (n + 1))])), (gt, .inl (cI, 64, .inl (upd gT n (oT i)))), (gf, .inl (cI, 64, .inl (upd gF n (oF i)))), (ga, .inl (cI, 64, .inl (upd gU n (oU i)))), (gb, .inl (cI, 64, .inl (upd gV n (oV i)))), (s, .inl (cI, 64, .inl (upd S n (nI j)))), (k, .inl (cI, 64, .inl K)), (w, .inl (cI, 8, .inl Z)), (oh, .inr (0, [.ref ot, .ref of, .ref oa, .ref ob, .int (nI on)])), (ot, .inl (cI, oM, .inl oT)), (of, .inl (cI, oM, .inl oF)), (oa, .inl (cI, oM, .inl oU)), (ob, .inl (cI, oM, .inl oV))] := hD
  refine lv_aload_n hx hb d_Log_append_34 rfl (lv_at hl 1 rfl) ?_
  refine va_get (D := (dC, dI)) (ci := 3) (v := .ref k) (C := "UpcastStreams$Log") (T := F_Log) (N := 4) hx hb hts in_Log hown hK hP 0 rfl rfl 2 (by decide) (hts _ uw_1_87) (fun _ h9 => h9) rfl d_Log_append_35 ?_
  refine lv_iload hx hb d_Log_append_38 (lv_at hl 0 rfl) ?_
  refine lv_aload_n hx hb d_Log_append_40 rfl (lv_at hl 1 rfl) ?_
  refine va_get (D := (dC, dI)) (ci := 3) (v := .ref w) (C := "UpcastStreams$Log") (T := F_Log) (N := 4) hx hb hts in_Log hown hK hP 0 rfl rfl 3 (by decide) (hts _ uw_1_89) (fun _ h9 => h9) rfl d_Log_append_41 ?_
  refine lv_iload_n hx hb d_Log_append_44 rfl (lv_at hl 2 rfl) ?_
  refine us_iald (j := j) hx hb hK hP 8 0 rfl rfl (vp_in_nI (by omega) (by omega)) (nI_clamp (by omega)) d_Log_append_45 ?_
  refine us_iast (j := n) hx hb hK hP hD hS 7 0 rfl rfl (vp_in_nI (by omega) (by omega)) (nI_clamp (by omega)) d_Log_append_46 (fun H locs hP hD hS => ?_)
  have hP : va_P (dC, dI) vwCl [(h, .inr (3, [.ref gh, .ref s, .ref k, .ref w])), (gh, .inr (0, [.ref gt, .ref gf, .ref ga, .ref gb, .int (nI (n + 1))])), (gt, .inl (cI, 64, .inl (upd gT n (oT i)))), (gf, .inl (cI, 64, .inl (upd gF n (oF i)))), (ga, .inl (cI, 64, .inl (upd gU n (oU i)))), (gb, .inl (cI, 64, .inl (upd gV n (oV i)))), (s, .inl (cI, 64, .inl (upd S n (nI j)))), (k, .inl (cI, 64, .inl (upd K n (Z j)))), (w, .inl (cI, 8, .inl Z)), (oh, .inr (0, [.ref ot, .ref of, .ref oa, .ref ob, .int (nI on)])), (ot, .inl (cI, oM, .inl oT)), (of, .inl (cI, oM, .inl oF)), (oa, .inl (cI, oM, .inl oU)), (ob, .inl (cI, oM, .inl oV))] H := hP
  have hD : va_D zA [(h, .inr (3, [.ref gh, .ref s, .ref k, .ref w])), (gh, .inr (0, [.ref gt, .ref gf, .ref ga, .ref gb, .int (nI (n + 1))])), (gt, .inl (cI, 64, .inl (upd gT n (oT i)))), (gf, .inl (cI, 64, .inl (upd gF n (oF i)))), (ga, .inl (cI, 64, .inl (upd gU n (oU i)))), (gb, .inl (cI, 64, .inl (upd gV n (oV i)))), (s, .inl (cI, 64, .inl (upd S n (nI j)))), (k, .inl (cI, 64, .inl (upd K n (Z j)))), (w, .inl (cI, 8, .inl Z)), (oh, .inr (0, [.ref ot, .ref of, .ref oa, .ref ob, .int (nI on)])), (ot, .inl (cI, oM, .inl oT)), (of, .inl (cI, oM, .inl oF)), (oa, .inl (cI, oM, .inl oU)), (ob, .inl (cI, oM, .inl oV))] := hD
  refine lv_aload_n hx hb d_Log_append_47 rfl (lv_at hl 1 rfl) ?_
  refine va_get (D := (dC, dI)) (ci := 3) (v := .ref w) (C := "UpcastStreams$Log") (T := F_Log) (N := 4) hx hb hts in_Log hown hK hP 0 rfl rfl 3 (by decide) (hts _ uw_1_89) (fun _ h9 => h9) rfl d_Log_append_48 ?_
  refine lv_iload_n hx hb d_Log_append_51 rfl (lv_at hl 2 rfl) ?_
  refine lv_dup2_11 hx hb d_Log_append_52 rfl rfl ?_
  refine us_iald (j := j) hx hb hK hP 8 0 rfl rfl (vp_in_nI (by omega) (by omega)) (nI_clamp (by omega)) d_Log_append_53 ?_
  refine lv_iconst (v := (1 : Int32)) hx hb d_Log_append_54 (by decide) ?_
  refine lv_iadd hx hb d_Log_append_55 ?_
  refine us_iast (j := j) hx hb hK hP hD hS 8 0 rfl rfl (vp_in_nI (by omega) (by omega)) (nI_clamp (by omega)) d_Log_append_56 (fun H locs hP hD hS => ?_)
  have hP : va_P (dC, dI) vwCl [(h, .inr (3, [.ref gh, .ref s, .ref k, .ref w])), (gh, .inr (0, [.ref gt, .ref gf, .ref ga, .ref gb, .int (nI (n + 1))])), (gt, .inl (cI, 64, .inl (upd gT n (oT i)))), (gf, .inl (cI, 64, .inl (upd gF n (oF i)))), (ga, .inl (cI, 64, .inl (upd gU n (oU i)))), (gb, .inl (cI, 64, .inl (upd gV n (oV i)))), (s, .inl (cI, 64, .inl (upd S n (nI j)))), (k, .inl (cI, 64, .inl (upd K n (Z j)))), (w, .inl (cI, 8, .inl (upd Z j ((Z j) + (1 : Int32))))), (oh, .inr (0, [.ref ot, .ref of, .ref oa, .ref ob, .int (nI on)])), (ot, .inl (cI, oM, .inl oT)), (of, .inl (cI, oM, .inl oF)), (oa, .inl (cI, oM, .inl oU)), (ob, .inl (cI, oM, .inl oV))] H := hP
  have hD : va_D zA [(h, .inr (3, [.ref gh, .ref s, .ref k, .ref w])), (gh, .inr (0, [.ref gt, .ref gf, .ref ga, .ref gb, .int (nI (n + 1))])), (gt, .inl (cI, 64, .inl (upd gT n (oT i)))), (gf, .inl (cI, 64, .inl (upd gF n (oF i)))), (ga, .inl (cI, 64, .inl (upd gU n (oU i)))), (gb, .inl (cI, 64, .inl (upd gV n (oV i)))), (s, .inl (cI, 64, .inl (upd S n (nI j)))), (k, .inl (cI, 64, .inl (upd K n (Z j)))), (w, .inl (cI, 8, .inl (upd Z j ((Z j) + (1 : Int32))))), (oh, .inr (0, [.ref ot, .ref of, .ref oa, .ref ob, .int (nI on)])), (ot, .inl (cI, oM, .inl oT)), (of, .inl (cI, oM, .inl oF)), (oa, .inl (cI, oM, .inl oU)), (ob, .inl (cI, oM, .inl oV))] := hD
  exact us_vret hQ (by decide) (by decide) hx hb hr hlk hK hS () rfl (by simp) hP hD d_Log_append_57

set_option maxHeartbeats 4000000 in
set_option maxRecDepth 100000 in
theorem c_Log_partOf (zl : Launch) (dC : Nat → ClassId) (dI : Nat → Nat → Nat) (cI cL cS cR : ClassId) (h : Nat) (s : Nat) (k : Nat) (w : Nat) (gh : Nat) (gt : Nat) (gf : Nat) (ga : Nat) (gb : Nat) (n : Nat) (gT : Nat → Int32) (gF : Nat → Int32) (gU : Nat → Int32) (gV : Nat → Int32) (S : Nat → Int32) (K : Nat → Int32) (Z : Nat → Int32) (i : Nat) (q : Nat) (hi : i < 64) (hq : q < 6) : us_Met (S := Int32) zl y_Log_partOf w_Log_partOf ({ frames := 0, cells := 0, slots := 0, locals := 0 }) (dC, dI) vwCl (us_ty cI cL cS cR) [.ref h, .int (nI i), .int (nI q)] [(h, .inr (3, [.ref gh, .ref s, .ref k, .ref w])), (gh, .inr (0, [.ref gt, .ref gf, .ref ga, .ref gb, .int (nI n)])), (gt, .inl (cI, 64, .inl gT)), (gf, .inl (cI, 64, .inl gF)), (ga, .inl (cI, 64, .inl gU)), (gb, .inl (cI, 64, .inl gV)), (s, .inl (cI, 64, .inl S)), (k, .inl (cI, 64, .inl K)), (w, .inl (cI, 8, .inl Z))] (fun u => some (.int u)) (fun u => u = us_p6 q (S i) (K i) (gT i) (gF i) (gU i) (gV i)) (fun u => [(h, .inr (3, [.ref gh, .ref s, .ref k, .ref w])), (gh, .inr (0, [.ref gt, .ref gf, .ref ga, .ref gb, .int (nI n)])), (gt, .inl (cI, 64, .inl gT)), (gf, .inl (cI, 64, .inl gF)), (ga, .inl (cI, 64, .inl gU)), (gb, .inl (cI, 64, .inl gV)), (s, .inl (cI, 64, .inl S)), (k, .inl (cI, 64, .inl K)), (w, .inl (cI, 8, .inl Z))]) := by
  refine us_ofW (cc := b_Log_partOf) (maxL := 3) (ret := (some .int)) (by decide) (Nat.le_of_ble_eq_true rfl) ?_
  intro zp ze zs zm args below meth zc zA ls zQ hQ hx hb hr hml hts hown hlk hin hl hK hP hD hS hA
  have hown : zs.vm.findClass "UpcastStreams$Log" = some zm.cls := hown
  have hl : lv_has ls 3 [(0, .ref h), (1, .int (nI i)), (2, .int (nI q))] := hl
  obtain ⟨H, hH⟩ : ∃ H, H = zs.heap := ⟨_, rfl⟩
  rw [← hH] at hP ⊢
  have hS : va_S zA zs.heap H [] := hH ▸ hS
  generalize ([] : List Loc) = locs at hS ⊢
  rcases (show q = 0 ∨ q = 1 ∨ q = 2 ∨ q = 3 ∨ q = 4 ∨ q = 5 by omega) with rfl | rfl | rfl | rfl | rfl | rfl
  · refine lv_iload_n hx hb d_Log_partOf_0 rfl (lv_at hl 2 rfl) ?_
    refine lv_tableIn (off := (35 : Int)) (tgt := 36) hx hb d_Log_partOf_1 (by decide) (by decide) (by decide) (by decide) ?_
    refine lv_aload_n hx hb d_Log_partOf_36 rfl (lv_at hl 0 rfl) ?_
    refine va_get (D := (dC, dI)) (ci := 3) (v := .ref s) (C := "UpcastStreams$Log") (T := F_Log) (N := 4) hx hb hts in_Log hown hK hP 0 rfl rfl 1 (by decide) (hts _ uw_1_85) (fun _ h9 => h9) rfl d_Log_partOf_37 ?_
    refine lv_iload_n hx hb d_Log_partOf_40 rfl (lv_at hl 1 rfl) ?_
    refine us_iald (j := i) hx hb hK hP 6 0 rfl rfl (vp_in_nI (by omega) (by omega)) (nI_clamp (by omega)) d_Log_partOf_41 ?_
    exact us_iret hQ (by decide) (by decide) hx hb hr hlk hK hS (S i) rfl (rfl) hP hD d_Log_partOf_42
  · refine lv_iload_n hx hb d_Log_partOf_0 rfl (lv_at hl 2 rfl) ?_
    refine lv_tableIn (off := (42 : Int)) (tgt := 43) hx hb d_Log_partOf_1 (by decide) (by decide) (by decide) (by decide) ?_
    refine lv_aload_n hx hb d_Log_partOf_43 rfl (lv_at hl 0 rfl) ?_
    refine va_get (D := (dC, dI)) (ci := 3) (v := .ref k) (C := "UpcastStreams$Log") (T := F_Log) (N := 4) hx hb hts in_Log hown hK hP 0 rfl rfl 2 (by decide) (hts _ uw_1_87) (fun _ h9 => h9) rfl d_Log_partOf_44 ?_
    refine lv_iload_n hx hb d_Log_partOf_47 rfl (lv_at hl 1 rfl) ?_
    refine us_iald (j := i) hx hb hK hP 7 0 rfl rfl (vp_in_nI (by omega) (by omega)) (nI_clamp (by omega)) d_Log_partOf_48 ?_
    exact us_iret hQ (by decide) (by decide) hx hb hr hlk hK hS (K i) rfl (rfl) hP hD d_Log_partOf_49
  · refine lv_iload_n hx hb d_Log_partOf_0 rfl (lv_at hl 2 rfl) ?_
    refine lv_tableIn (off := (49 : Int)) (tgt := 50) hx hb d_Log_partOf_1 (by decide) (by decide) (by decide) (by decide) ?_
    refine lv_aload_n hx hb d_Log_partOf_50 rfl (lv_at hl 0 rfl) ?_
    refine va_get (D := (dC, dI)) (ci := 3) (v := .ref gh) (C := "UpcastStreams$Log") (T := F_Log) (N := 4) hx hb hts in_Log hown hK hP 0 rfl rfl 0 (by decide) (hts _ uw_1_83) (fun _ h9 => h9) rfl d_Log_partOf_51 ?_
    refine va_get (D := (dC, dI)) (ci := 0) (v := .ref gt) (C := "UpcastStreams$Row") (T := F_Row) (N := 5) hx hb hts in_Row hown hK hP 1 rfl rfl 0 (by decide) (hts _ uw_1_40) (fun _ h9 => h9) rfl d_Log_partOf_54 ?_
    refine lv_iload_n hx hb d_Log_partOf_57 rfl (lv_at hl 1 rfl) ?_
    refine us_iald (j := i) hx hb hK hP 2 0 rfl rfl (vp_in_nI (by omega) (by omega)) (nI_clamp (by omega)) d_Log_partOf_58 ?_
    exact us_iret hQ (by decide) (by decide) hx hb hr hlk hK hS (gT i) rfl (rfl) hP hD d_Log_partOf_59
  · refine lv_iload_n hx hb d_Log_partOf_0 rfl (lv_at hl 2 rfl) ?_
    refine lv_tableIn (off := (59 : Int)) (tgt := 60) hx hb d_Log_partOf_1 (by decide) (by decide) (by decide) (by decide) ?_
    refine lv_aload_n hx hb d_Log_partOf_60 rfl (lv_at hl 0 rfl) ?_
    refine va_get (D := (dC, dI)) (ci := 3) (v := .ref gh) (C := "UpcastStreams$Log") (T := F_Log) (N := 4) hx hb hts in_Log hown hK hP 0 rfl rfl 0 (by decide) (hts _ uw_1_83) (fun _ h9 => h9) rfl d_Log_partOf_61 ?_
    refine va_get (D := (dC, dI)) (ci := 0) (v := .ref gf) (C := "UpcastStreams$Row") (T := F_Row) (N := 5) hx hb hts in_Row hown hK hP 1 rfl rfl 1 (by decide) (hts _ uw_1_46) (fun _ h9 => h9) rfl d_Log_partOf_64 ?_
    refine lv_iload_n hx hb d_Log_partOf_67 rfl (lv_at hl 1 rfl) ?_
    refine us_iald (j := i) hx hb hK hP 3 0 rfl rfl (vp_in_nI (by omega) (by omega)) (nI_clamp (by omega)) d_Log_partOf_68 ?_
    exact us_iret hQ (by decide) (by decide) hx hb hr hlk hK hS (gF i) rfl (rfl) hP hD d_Log_partOf_69
  · refine lv_iload_n hx hb d_Log_partOf_0 rfl (lv_at hl 2 rfl) ?_
    refine lv_tableIn (off := (69 : Int)) (tgt := 70) hx hb d_Log_partOf_1 (by decide) (by decide) (by decide) (by decide) ?_
    refine lv_aload_n hx hb d_Log_partOf_70 rfl (lv_at hl 0 rfl) ?_
    refine va_get (D := (dC, dI)) (ci := 3) (v := .ref gh) (C := "UpcastStreams$Log") (T := F_Log) (N := 4) hx hb hts in_Log hown hK hP 0 rfl rfl 0 (by decide) (hts _ uw_1_83) (fun _ h9 => h9) rfl d_Log_partOf_71 ?_
    refine va_get (D := (dC, dI)) (ci := 0) (v := .ref ga) (C := "UpcastStreams$Row") (T := F_Row) (N := 5) hx hb hts in_Row hown hK hP 1 rfl rfl 2 (by decide) (hts _ uw_1_49) (fun _ h9 => h9) rfl d_Log_partOf_74 ?_
    refine lv_iload_n hx hb d_Log_partOf_77 rfl (lv_at hl 1 rfl) ?_
    refine us_iald (j := i) hx hb hK hP 4 0 rfl rfl (vp_in_nI (by omega) (by omega)) (nI_clamp (by omega)) d_Log_partOf_78 ?_
    exact us_iret hQ (by decide) (by decide) hx hb hr hlk hK hS (gU i) rfl (rfl) hP hD d_Log_partOf_79
  · refine lv_iload_n hx hb d_Log_partOf_0 rfl (lv_at hl 2 rfl) ?_
    refine lv_tableOut (tgt := 80) hx hb d_Log_partOf_1 (by decide) (by decide) ?_
    refine lv_aload_n hx hb d_Log_partOf_80 rfl (lv_at hl 0 rfl) ?_
    refine va_get (D := (dC, dI)) (ci := 3) (v := .ref gh) (C := "UpcastStreams$Log") (T := F_Log) (N := 4) hx hb hts in_Log hown hK hP 0 rfl rfl 0 (by decide) (hts _ uw_1_83) (fun _ h9 => h9) rfl d_Log_partOf_81 ?_
    refine va_get (D := (dC, dI)) (ci := 0) (v := .ref gb) (C := "UpcastStreams$Row") (T := F_Row) (N := 5) hx hb hts in_Row hown hK hP 1 rfl rfl 3 (by decide) (hts _ uw_1_54) (fun _ h9 => h9) rfl d_Log_partOf_84 ?_
    refine lv_iload_n hx hb d_Log_partOf_87 rfl (lv_at hl 1 rfl) ?_
    refine us_iald (j := i) hx hb hK hP 5 0 rfl rfl (vp_in_nI (by omega) (by omega)) (nI_clamp (by omega)) d_Log_partOf_88 ?_
    exact us_iret hQ (by decide) (by decide) hx hb hr hlk hK hS (gV i) rfl (rfl) hP hD d_Log_partOf_89

set_option maxHeartbeats 4000000 in
set_option maxRecDepth 100000 in
theorem c_Hand_take (zl : Launch) (dC : Nat → ClassId) (dI : Nat → Nat → Nat) (cI cL cS cR : ClassId) (h : Nat) (s : Nat) (k : Nat) (gh : Nat) (gt : Nat) (gf : Nat) (ga : Nat) (gb : Nat) (n : Nat) (gT : Nat → Int32) (gF : Nat → Int32) (gU : Nat → Int32) (gV : Nat → Int32) (S : Nat → Int32) (K : Nat → Int32) (oh : Nat) (ot : Nat) (of : Nat) (oa : Nat) (ob : Nat) (oM : Nat) (on : Nat) (oT : Nat → Int32) (oF : Nat → Int32) (oU : Nat → Int32) (oV : Nat → Int32) (i : Nat) (x : Int32) (y : Int32) (hn : n < 16) (hi : i < oM) (hoM : oM ≤ 64) : us_Met (S := Unit) zl y_Hand_take w_Hand_take ({ frames := 2, cells := 0, slots := 0, locals := 46 }) (dC, dI) vwCl (us_ty cI cL cS cR) [.ref h, .int x, .int y, .ref oh, .int (nI i)] [(h, .inr (4, [.ref gh, .ref s, .ref k])), (gh, .inr (0, [.ref gt, .ref gf, .ref ga, .ref gb, .int (nI n)])), (gt, .inl (cI, 16, .inl gT)), (gf, .inl (cI, 16, .inl gF)), (ga, .inl (cI, 16, .inl gU)), (gb, .inl (cI, 16, .inl gV)), (s, .inl (cI, 16, .inl S)), (k, .inl (cI, 16, .inl K)), (oh, .inr (0, [.ref ot, .ref of, .ref oa, .ref ob, .int (nI on)])), (ot, .inl (cI, oM, .inl oT)), (of, .inl (cI, oM, .inl oF)), (oa, .inl (cI, oM, .inl oU)), (ob, .inl (cI, oM, .inl oV))] (fun _ => none) (fun u => True) (fun u => [(h, .inr (4, [.ref gh, .ref s, .ref k])), (gh, .inr (0, [.ref gt, .ref gf, .ref ga, .ref gb, .int (nI (n + 1))])), (gt, .inl (cI, 16, .inl (upd gT n (oT i)))), (gf, .inl (cI, 16, .inl (upd gF n (oF i)))), (ga, .inl (cI, 16, .inl (upd gU n (oU i)))), (gb, .inl (cI, 16, .inl (upd gV n (oV i)))), (s, .inl (cI, 16, .inl (upd S n x))), (k, .inl (cI, 16, .inl (upd K n y))), (oh, .inr (0, [.ref ot, .ref of, .ref oa, .ref ob, .int (nI on)])), (ot, .inl (cI, oM, .inl oT)), (of, .inl (cI, oM, .inl oF)), (oa, .inl (cI, oM, .inl oU)), (ob, .inl (cI, oM, .inl oV))]) := by
  refine us_ofW (cc := b_Hand_take) (maxL := 6) (ret := none) (by decide) (Nat.le_of_ble_eq_true rfl) ?_
  intro zp ze zs zm args below meth zc zA ls zQ hQ hx hb hr hml hts hown hlk hin hl hK hP hD hS hA
  have hown : zs.vm.findClass "UpcastStreams$Hand" = some zm.cls := hown
  have hl : lv_has ls 6 [(0, .ref h), (1, .int x), (2, .int y), (3, .ref oh), (4, .int (nI i))] := hl
  obtain ⟨H, hH⟩ : ∃ H, H = zs.heap := ⟨_, rfl⟩
  rw [← hH] at hP ⊢
  have hS : va_S zA zs.heap H [] := hH ▸ hS
  generalize ([] : List Loc) = locs at hS ⊢
  refine lv_aload_n hx hb d_Hand_take_0 rfl (lv_at hl 0 rfl) ?_
  refine va_get (D := (dC, dI)) (ci := 4) (v := .ref gh) (C := "UpcastStreams$Hand") (T := F_Hand) (N := 3) hx hb hts in_Hand hown hK hP 0 rfl rfl 0 (by decide) (hts _ uw_1_203) (fun _ h9 => h9) rfl d_Hand_take_1 ?_
  refine va_get (D := (dC, dI)) (ci := 0) (v := .int (nI n)) (C := "UpcastStreams$Row") (T := F_Row) (N := 5) hx hb hts in_Row hown hK hP 1 rfl rfl 4 (by decide) (hts _ uw_1_60) (fun _ h9 => h9) rfl d_Hand_take_4 ?_
  refine lv_istore (lv' := [(5, .int (nI n)), (0, .ref h), (1, .int x), (2, .int y), (3, .ref oh), (4, .int (nI i))]) hx hb d_Hand_take_7 hl (by decide) rfl (fun ls hl => ?_)
  refine lv_iload hx hb d_Hand_take_9 (lv_at hl 0 rfl) ?_
  refine lv_bipush (v := (16 : Int32)) hx hb d_Hand_take_11 (by decide) ?_
  refine lv_icmp_lt (tgt := 17) hx hb d_Hand_take_13 (by decide) (fun c1 => ?_) (fun h => absurd (nI_lt (b := 16) hn (by omega)) h)
  refine lv_aload_n hx hb d_Hand_take_17 rfl (lv_at hl 1 rfl) ?_
  refine va_get (D := (dC, dI)) (ci := 4) (v := .ref gh) (C := "UpcastStreams$Hand") (T := F_Hand) (N := 3) hx hb hts in_Hand hown hK hP 0 rfl rfl 0 (by decide) (hts _ uw_1_203) (fun _ h9 => h9) rfl d_Hand_take_18 ?_
  refine lv_aload_n hx hb d_Hand_take_21 rfl (lv_at hl 4 rfl) ?_
  refine lv_iload hx hb d_Hand_take_22 (lv_at hl 5 rfl) ?_
  refine us_callV (q0 := 1) (As := [.ref oh, .int (nI i)]) (rest := []) ⟨hx, hb, hml, hown, hts⟩ (c_Row_putFrom zl dC dI cI cL cS cR gh gt gf ga gb 16 n gT gF gU gV oh ot of oa ob oM on oT oF oU oV i hn (by decide) hi hoM) (cwV 2 hts (us_gV uw_3_98 uw_2_191 uw_2_192 uw_1_3 k_Row_putFrom) rfl rfl rfl h_Row_putFrom ⟨by decide, by decide⟩) hK hP hD hS hA [1, 2, 3, 4, 5, 8, 9, 10, 11, 12] rfl (by decide) (fun _ => Nat.le_of_ble_eq_true rfl) rfl rfl rfl hl.1 rfl (Nat.le_of_ble_eq_true rfl) d_Hand_take_24 ⟨by decide, by decide⟩ (fun u H locs w24 hP hD hS => ?_)
  have hP : va_P (dC, dI) vwCl [(h, .inr (4, [.ref gh, .ref s, .ref k])), (gh, .inr (0, [.ref gt, .ref gf, .ref ga, .ref gb, .int (nI (n + 1))])), (gt, .inl (cI, 16, .inl (upd gT n (oT i)))), (gf, .inl (cI, 16, .inl (upd gF n (oF i)))), (ga, .inl (cI, 16, .inl (upd gU n (oU i)))), (gb, .inl (cI, 16, .inl (upd gV n (oV i)))), (s, .inl (cI, 16, .inl S)), (k, .inl (cI, 16, .inl K)), (oh, .inr (0, [.ref ot, .ref of, .ref oa, .ref ob, .int (nI on)])), (ot, .inl (cI, oM, .inl oT)), (of, .inl (cI, oM, .inl oF)), (oa, .inl (cI, oM, .inl oU)), (ob, .inl (cI, oM, .inl oV))] H := hP
  have hD : va_D zA [(h, .inr (4, [.ref gh, .ref s, .ref k])), (gh, .inr (0, [.ref gt, .ref gf, .ref ga, .ref gb, .int (nI (n + 1))])), (gt, .inl (cI, 16, .inl (upd gT n (oT i)))), (gf, .inl (cI, 16, .inl (upd gF n (oF i)))), (ga, .inl (cI, 16, .inl (upd gU n (oU i)))), (gb, .inl (cI, 16, .inl (upd gV n (oV i)))), (s, .inl (cI, 16, .inl S)), (k, .inl (cI, 16, .inl K)), (oh, .inr (0, [.ref ot, .ref of, .ref oa, .ref ob, .int (nI on)])), (ot, .inl (cI, oM, .inl oT)), (of, .inl (cI, oM, .inl oF)), (oa, .inl (cI, oM, .inl oU)), (ob, .inl (cI, oM, .inl oV))] := hD
  try dsimp only at w24
  refine W.eq (g2 := F0 zm 27 ls []) rfl ?_
  refine lv_aload_n hx hb d_Hand_take_27 rfl (lv_at hl 1 rfl) ?_
  refine va_get (D := (dC, dI)) (ci := 4) (v := .ref s) (C := "UpcastStreams$Hand") (T := F_Hand) (N := 3) hx hb hts in_Hand hown hK hP 0 rfl rfl 1 (by decide) (hts _ uw_1_205) (fun _ h9 => h9) rfl d_Hand_take_28 ?_
  refine lv_iload hx hb d_Hand_take_31 (lv_at hl 0 rfl) ?_
  refine lv_iload_n hx hb d_Hand_take_33 rfl (lv_at hl 2 rfl) ?_
  refine us_iast (j := n) hx hb hK hP hD hS 6 0 rfl rfl (vp_in_nI (by omega) (by omega)) (nI_clamp (by omega)) d_Hand_take_34 (fun H locs hP hD hS => ?_)
  have hP : va_P (dC, dI) vwCl [(h, .inr (4, [.ref gh, .ref s, .ref k])), (gh, .inr (0, [.ref gt, .ref gf, .ref ga, .ref gb, .int (nI (n + 1))])), (gt, .inl (cI, 16, .inl (upd gT n (oT i)))), (gf, .inl (cI, 16, .inl (upd gF n (oF i)))), (ga, .inl (cI, 16, .inl (upd gU n (oU i)))), (gb, .inl (cI, 16, .inl (upd gV n (oV i)))), (s, .inl (cI, 16, .inl (upd S n x))), (k, .inl (cI, 16, .inl K)), (oh, .inr (0, [.ref ot, .ref of, .ref oa, .ref ob, .int (nI on)])), (ot, .inl (cI, oM, .inl oT)), (of, .inl (cI, oM, .inl oF)), (oa, .inl (cI, oM, .inl oU)), (ob, .inl (cI, oM, .inl oV))] H := hP
  have hD : va_D zA [(h, .inr (4, [.ref gh, .ref s, .ref k])), (gh, .inr (0, [.ref gt, .ref gf, .ref ga, .ref gb, .int (nI (n + 1))])), (gt, .inl (cI, 16, .inl (upd gT n (oT i)))), (gf, .inl (cI, 16, .inl (upd gF n (oF i)))), (ga, .inl (cI, 16, .inl (upd gU n (oU i)))), (gb, .inl (cI, 16, .inl (upd gV n (oV i)))), (s, .inl (cI, 16, .inl (upd S n x))), (k, .inl (cI, 16, .inl K)), (oh, .inr (0, [.ref ot, .ref of, .ref oa, .ref ob, .int (nI on)])), (ot, .inl (cI, oM, .inl oT)), (of, .inl (cI, oM, .inl oF)), (oa, .inl (cI, oM, .inl oU)), (ob, .inl (cI, oM, .inl oV))] := hD
  refine lv_aload_n hx hb d_Hand_take_35 rfl (lv_at hl 1 rfl) ?_
  refine va_get (D := (dC, dI)) (ci := 4) (v := .ref k) (C := "UpcastStreams$Hand") (T := F_Hand) (N := 3) hx hb hts in_Hand hown hK hP 0 rfl rfl 2 (by decide) (hts _ uw_1_206) (fun _ h9 => h9) rfl d_Hand_take_36 ?_
  refine lv_iload hx hb d_Hand_take_39 (lv_at hl 0 rfl) ?_
  refine lv_iload_n hx hb d_Hand_take_41 rfl (lv_at hl 3 rfl) ?_
  refine us_iast (j := n) hx hb hK hP hD hS 7 0 rfl rfl (vp_in_nI (by omega) (by omega)) (nI_clamp (by omega)) d_Hand_take_42 (fun H locs hP hD hS => ?_)
  have hP : va_P (dC, dI) vwCl [(h, .inr (4, [.ref gh, .ref s, .ref k])), (gh, .inr (0, [.ref gt, .ref gf, .ref ga, .ref gb, .int (nI (n + 1))])), (gt, .inl (cI, 16, .inl (upd gT n (oT i)))), (gf, .inl (cI, 16, .inl (upd gF n (oF i)))), (ga, .inl (cI, 16, .inl (upd gU n (oU i)))), (gb, .inl (cI, 16, .inl (upd gV n (oV i)))), (s, .inl (cI, 16, .inl (upd S n x))), (k, .inl (cI, 16, .inl (upd K n y))), (oh, .inr (0, [.ref ot, .ref of, .ref oa, .ref ob, .int (nI on)])), (ot, .inl (cI, oM, .inl oT)), (of, .inl (cI, oM, .inl oF)), (oa, .inl (cI, oM, .inl oU)), (ob, .inl (cI, oM, .inl oV))] H := hP
  have hD : va_D zA [(h, .inr (4, [.ref gh, .ref s, .ref k])), (gh, .inr (0, [.ref gt, .ref gf, .ref ga, .ref gb, .int (nI (n + 1))])), (gt, .inl (cI, 16, .inl (upd gT n (oT i)))), (gf, .inl (cI, 16, .inl (upd gF n (oF i)))), (ga, .inl (cI, 16, .inl (upd gU n (oU i)))), (gb, .inl (cI, 16, .inl (upd gV n (oV i)))), (s, .inl (cI, 16, .inl (upd S n x))), (k, .inl (cI, 16, .inl (upd K n y))), (oh, .inr (0, [.ref ot, .ref of, .ref oa, .ref ob, .int (nI on)])), (ot, .inl (cI, oM, .inl oT)), (of, .inl (cI, oM, .inl oF)), (oa, .inl (cI, oM, .inl oU)), (ob, .inl (cI, oM, .inl oV))] := hD
  exact us_vret hQ (by decide) (by decide) hx hb hr hlk hK hS () rfl (by simp) hP hD d_Hand_take_43

set_option maxHeartbeats 4000000 in
set_option maxRecDepth 100000 in
theorem c_Hand_partOf (zl : Launch) (dC : Nat → ClassId) (dI : Nat → Nat → Nat) (cI cL cS cR : ClassId) (h : Nat) (s : Nat) (k : Nat) (gh : Nat) (gt : Nat) (gf : Nat) (ga : Nat) (gb : Nat) (n : Nat) (gT : Nat → Int32) (gF : Nat → Int32) (gU : Nat → Int32) (gV : Nat → Int32) (S : Nat → Int32) (K : Nat → Int32) (i : Nat) (q : Nat) (hi : i < 16) (hq : q < 5) : us_Met (S := Int32) zl y_Hand_partOf w_Hand_partOf ({ frames := 0, cells := 0, slots := 0, locals := 0 }) (dC, dI) vwCl (us_ty cI cL cS cR) [.ref h, .int (nI i), .int (nI q)] [(h, .inr (4, [.ref gh, .ref s, .ref k])), (gh, .inr (0, [.ref gt, .ref gf, .ref ga, .ref gb, .int (nI n)])), (gt, .inl (cI, 16, .inl gT)), (gf, .inl (cI, 16, .inl gF)), (ga, .inl (cI, 16, .inl gU)), (gb, .inl (cI, 16, .inl gV)), (s, .inl (cI, 16, .inl S)), (k, .inl (cI, 16, .inl K))] (fun u => some (.int u)) (fun u => u = us_p5 q (S i) (K i) (gT i) (gU i) (gV i)) (fun u => [(h, .inr (4, [.ref gh, .ref s, .ref k])), (gh, .inr (0, [.ref gt, .ref gf, .ref ga, .ref gb, .int (nI n)])), (gt, .inl (cI, 16, .inl gT)), (gf, .inl (cI, 16, .inl gF)), (ga, .inl (cI, 16, .inl gU)), (gb, .inl (cI, 16, .inl gV)), (s, .inl (cI, 16, .inl S)), (k, .inl (cI, 16, .inl K))]) := by
  refine us_ofW (cc := b_Hand_partOf) (maxL := 3) (ret := (some .int)) (by decide) (Nat.le_of_ble_eq_true rfl) ?_
  intro zp ze zs zm args below meth zc zA ls zQ hQ hx hb hr hml hts hown hlk hin hl hK hP hD hS hA
  have hown : zs.vm.findClass "UpcastStreams$Hand" = some zm.cls := hown
  have hl : lv_has ls 3 [(0, .ref h), (1, .int (nI i)), (2, .int (nI q))] := hl
  obtain ⟨H, hH⟩ : ∃ H, H = zs.heap := ⟨_, rfl⟩
  rw [← hH] at hP ⊢
  have hS : va_S zA zs.heap H [] := hH ▸ hS
  generalize ([] : List Loc) = locs at hS ⊢
  rcases (show q = 0 ∨ q = 1 ∨ q = 2 ∨ q = 3 ∨ q = 4 by omega) with rfl | rfl | rfl | rfl | rfl
  · refine lv_iload_n hx hb d_Hand_partOf_0 rfl (lv_at hl 2 rfl) ?_
    refine lv_tableIn (off := (31 : Int)) (tgt := 32) hx hb d_Hand_partOf_1 (by decide) (by decide) (by decide) (by decide) ?_
    refine lv_aload_n hx hb d_Hand_partOf_32 rfl (lv_at hl 0 rfl) ?_
    refine va_get (D := (dC, dI)) (ci := 4) (v := .ref s) (C := "UpcastStreams$Hand") (T := F_Hand) (N := 3) hx hb hts in_Hand hown hK hP 0 rfl rfl 1 (by decide) (hts _ uw_1_205) (fun _ h9 => h9) rfl d_Hand_partOf_33 ?_
    refine lv_iload_n hx hb d_Hand_partOf_36 rfl (lv_at hl 1 rfl) ?_
    refine us_iald (j := i) hx hb hK hP 6 0 rfl rfl (vp_in_nI (by omega) (by omega)) (nI_clamp (by omega)) d_Hand_partOf_37 ?_
    exact us_iret hQ (by decide) (by decide) hx hb hr hlk hK hS (S i) rfl (rfl) hP hD d_Hand_partOf_38
  · refine lv_iload_n hx hb d_Hand_partOf_0 rfl (lv_at hl 2 rfl) ?_
    refine lv_tableIn (off := (38 : Int)) (tgt := 39) hx hb d_Hand_partOf_1 (by decide) (by decide) (by decide) (by decide) ?_
    refine lv_aload_n hx hb d_Hand_partOf_39 rfl (lv_at hl 0 rfl) ?_
    refine va_get (D := (dC, dI)) (ci := 4) (v := .ref k) (C := "UpcastStreams$Hand") (T := F_Hand) (N := 3) hx hb hts in_Hand hown hK hP 0 rfl rfl 2 (by decide) (hts _ uw_1_206) (fun _ h9 => h9) rfl d_Hand_partOf_40 ?_
    refine lv_iload_n hx hb d_Hand_partOf_43 rfl (lv_at hl 1 rfl) ?_
    refine us_iald (j := i) hx hb hK hP 7 0 rfl rfl (vp_in_nI (by omega) (by omega)) (nI_clamp (by omega)) d_Hand_partOf_44 ?_
    exact us_iret hQ (by decide) (by decide) hx hb hr hlk hK hS (K i) rfl (rfl) hP hD d_Hand_partOf_45
  · refine lv_iload_n hx hb d_Hand_partOf_0 rfl (lv_at hl 2 rfl) ?_
    refine lv_tableIn (off := (45 : Int)) (tgt := 46) hx hb d_Hand_partOf_1 (by decide) (by decide) (by decide) (by decide) ?_
    refine lv_aload_n hx hb d_Hand_partOf_46 rfl (lv_at hl 0 rfl) ?_
    refine va_get (D := (dC, dI)) (ci := 4) (v := .ref gh) (C := "UpcastStreams$Hand") (T := F_Hand) (N := 3) hx hb hts in_Hand hown hK hP 0 rfl rfl 0 (by decide) (hts _ uw_1_203) (fun _ h9 => h9) rfl d_Hand_partOf_47 ?_
    refine va_get (D := (dC, dI)) (ci := 0) (v := .ref gt) (C := "UpcastStreams$Row") (T := F_Row) (N := 5) hx hb hts in_Row hown hK hP 1 rfl rfl 0 (by decide) (hts _ uw_1_39) (fun _ h9 => h9) rfl d_Hand_partOf_50 ?_
    refine lv_iload_n hx hb d_Hand_partOf_53 rfl (lv_at hl 1 rfl) ?_
    refine us_iald (j := i) hx hb hK hP 2 0 rfl rfl (vp_in_nI (by omega) (by omega)) (nI_clamp (by omega)) d_Hand_partOf_54 ?_
    exact us_iret hQ (by decide) (by decide) hx hb hr hlk hK hS (gT i) rfl (rfl) hP hD d_Hand_partOf_55
  · refine lv_iload_n hx hb d_Hand_partOf_0 rfl (lv_at hl 2 rfl) ?_
    refine lv_tableIn (off := (55 : Int)) (tgt := 56) hx hb d_Hand_partOf_1 (by decide) (by decide) (by decide) (by decide) ?_
    refine lv_aload_n hx hb d_Hand_partOf_56 rfl (lv_at hl 0 rfl) ?_
    refine va_get (D := (dC, dI)) (ci := 4) (v := .ref gh) (C := "UpcastStreams$Hand") (T := F_Hand) (N := 3) hx hb hts in_Hand hown hK hP 0 rfl rfl 0 (by decide) (hts _ uw_1_203) (fun _ h9 => h9) rfl d_Hand_partOf_57 ?_
    refine va_get (D := (dC, dI)) (ci := 0) (v := .ref ga) (C := "UpcastStreams$Row") (T := F_Row) (N := 5) hx hb hts in_Row hown hK hP 1 rfl rfl 2 (by decide) (hts _ uw_1_48) (fun _ h9 => h9) rfl d_Hand_partOf_60 ?_
    refine lv_iload_n hx hb d_Hand_partOf_63 rfl (lv_at hl 1 rfl) ?_
    refine us_iald (j := i) hx hb hK hP 4 0 rfl rfl (vp_in_nI (by omega) (by omega)) (nI_clamp (by omega)) d_Hand_partOf_64 ?_
    exact us_iret hQ (by decide) (by decide) hx hb hr hlk hK hS (gU i) rfl (rfl) hP hD d_Hand_partOf_65
  · refine lv_iload_n hx hb d_Hand_partOf_0 rfl (lv_at hl 2 rfl) ?_
    refine lv_tableOut (tgt := 66) hx hb d_Hand_partOf_1 (by decide) (by decide) ?_
    refine lv_aload_n hx hb d_Hand_partOf_66 rfl (lv_at hl 0 rfl) ?_
    refine va_get (D := (dC, dI)) (ci := 4) (v := .ref gh) (C := "UpcastStreams$Hand") (T := F_Hand) (N := 3) hx hb hts in_Hand hown hK hP 0 rfl rfl 0 (by decide) (hts _ uw_1_203) (fun _ h9 => h9) rfl d_Hand_partOf_67 ?_
    refine va_get (D := (dC, dI)) (ci := 0) (v := .ref gb) (C := "UpcastStreams$Row") (T := F_Row) (N := 5) hx hb hts in_Row hown hK hP 1 rfl rfl 3 (by decide) (hts _ uw_1_53) (fun _ h9 => h9) rfl d_Hand_partOf_70 ?_
    refine lv_iload_n hx hb d_Hand_partOf_73 rfl (lv_at hl 1 rfl) ?_
    refine us_iald (j := i) hx hb hK hP 5 0 rfl rfl (vp_in_nI (by omega) (by omega)) (nI_clamp (by omega)) d_Hand_partOf_74 ?_
    exact us_iret hQ (by decide) (by decide) hx hb hr hlk hK hS (gV i) rfl (rfl) hP hD d_Hand_partOf_75

set_option maxHeartbeats 4000000 in
set_option maxRecDepth 100000 in
theorem c_Shelf_clear (zl : Launch) (dC : Nat → ClassId) (dI : Nat → Nat → Nat) (cI cL cS cR : ClassId) (h : Nat) (la : Nat) (ea : Nat) (lv : Int32) (ev : Int32)  : us_Met (S := Unit) zl y_Shelf_clear w_Shelf_clear ({ frames := 0, cells := 0, slots := 0, locals := 0 }) (dC, dI) vwCl (us_ty cI cL cS cR) [.ref h] [(h, .inr (6, [.ref la, .ref ea, .int lv, .int ev]))] (fun _ => none) (fun u => True) (fun u => [(h, .inr (6, [.ref la, .ref ea, .int (-1 : Int32), .int (-1 : Int32)]))]) := by
  refine us_ofW (cc := b_Shelf_clear) (maxL := 1) (ret := none) (by decide) (Nat.le_of_ble_eq_true rfl) ?_
  intro zp ze zs zm args below meth zc zA ls zQ hQ hx hb hr hml hts hown hlk hin hl hK hP hD hS hA
  have hown : zs.vm.findClass "UpcastStreams$Shelf" = some zm.cls := hown
  have hl : lv_has ls 1 [(0, .ref h)] := hl
  obtain ⟨H, hH⟩ : ∃ H, H = zs.heap := ⟨_, rfl⟩
  rw [← hH] at hP ⊢
  have hS : va_S zA zs.heap H [] := hH ▸ hS
  generalize ([] : List Loc) = locs at hS ⊢
  refine lv_aload_n hx hb d_Shelf_clear_0 rfl (lv_at hl 0 rfl) ?_
  refine lv_iconst (v := (-1 : Int32)) hx hb d_Shelf_clear_1 (by decide) ?_
  refine va_put (D := (dC, dI)) (ci := 6) (v := .int (-1 : Int32)) (ty := .int) (C := "UpcastStreams$Shelf") (T := F_Shelf) (N := 4) hx hb hts in_Shelf t_Shelf t_Shelf_ok n_Shelf hown hK hP hD hS 0 rfl rfl 2 (by decide) (hts _ uw_1_162) (fun _ h9 => h9) rfl (by decide +kernel) rfl rfl (Nat.le_of_ble_eq_true rfl) d_Shelf_clear_2 (fun H locs hP hD hS => ?_)
  have hP : va_P (dC, dI) vwCl [(h, .inr (6, [.ref la, .ref ea, .int (-1 : Int32), .int ev]))] H := hP
  have hD : va_D zA [(h, .inr (6, [.ref la, .ref ea, .int (-1 : Int32), .int ev]))] := hD
  refine lv_aload_n hx hb d_Shelf_clear_5 rfl (lv_at hl 0 rfl) ?_
  refine lv_iconst (v := (-1 : Int32)) hx hb d_Shelf_clear_6 (by decide) ?_
  refine va_put (D := (dC, dI)) (ci := 6) (v := .int (-1 : Int32)) (ty := .int) (C := "UpcastStreams$Shelf") (T := F_Shelf) (N := 4) hx hb hts in_Shelf t_Shelf t_Shelf_ok n_Shelf hown hK hP hD hS 0 rfl rfl 3 (by decide) (hts _ uw_1_163) (fun _ h9 => h9) rfl (by decide +kernel) rfl rfl (Nat.le_of_ble_eq_true rfl) d_Shelf_clear_7 (fun H locs hP hD hS => ?_)
  have hP : va_P (dC, dI) vwCl [(h, .inr (6, [.ref la, .ref ea, .int (-1 : Int32), .int (-1 : Int32)]))] H := hP
  have hD : va_D zA [(h, .inr (6, [.ref la, .ref ea, .int (-1 : Int32), .int (-1 : Int32)]))] := hD
  exact us_vret hQ (by decide) (by decide) hx hb hr hlk hK hS () rfl (by simp) hP hD d_Shelf_clear_10

set_option maxHeartbeats 4000000 in
set_option maxRecDepth 100000 in
theorem c_Shelf_keep (zl : Launch) (dC : Nat → ClassId) (dI : Nat → Nat → Nat) (cI cL cS cR : ClassId) (h : Nat) (la : Nat) (ea : Nat) (k : Nat) (lv : Int32) (ev : Int32) (v : Int32) (l1 : Bool) (l2 : Bool) (l3 : Int64) (l4 : Int64) (l5 : Int64) (l6 : Int64) (l7 : Int64) (l8 : Int64) (e1 : Bool) (e2 : Bool) (e3 : Int64) (e4 : Int64) (e5 : Int64) (e6 : Int64) (e7 : Int64) (e8 : Int64) (p1 : Bool) (p2 : Bool) (p3 : Int64) (p4 : Int64) (p5 : Int64) (p6 : Int64) (p7 : Int64) (p8 : Int64)  : us_Met (S := Unit) zl y_Shelf_keep w_Shelf_keep ({ frames := 1, cells := 0, slots := 0, locals := 21 }) (dC, dI) vwCl (us_ty cI cL cS cR) [.ref h, .int v, .ref k] [(h, .inr (6, [.ref la, .ref ea, .int lv, .int ev])), (la, .inr (1, [.int (us_b l1), .int (us_b l2), .long l3, .long l4, .long l5, .long l6, .long l7, .long l8])), (ea, .inr (1, [.int (us_b e1), .int (us_b e2), .long e3, .long e4, .long e5, .long e6, .long e7, .long e8])), (k, .inr (1, [.int (us_b p1), .int (us_b p2), .long p3, .long p4, .long p5, .long p6, .long p7, .long p8]))] (fun _ => none) (fun u => True) (fun u => [(h, .inr (6, [.ref ea, .ref la, .int v, .int lv])), (la, .inr (1, [.int (us_b l1), .int (us_b l2), .long l3, .long l4, .long l5, .long l6, .long l7, .long l8])), (ea, .inr (1, [.int (us_b p1), .int (us_b p2), .long p3, .long p4, .long p5, .long p6, .long p7, .long p8])), (k, .inr (1, [.int (us_b p1), .int (us_b p2), .long p3, .long p4, .long p5, .long p6, .long p7, .long p8]))]) := by
  refine us_ofW (cc := b_Shelf_keep) (maxL := 4) (ret := none) (by decide) (Nat.le_of_ble_eq_true rfl) ?_
  intro zp ze zs zm args below meth zc zA ls zQ hQ hx hb hr hml hts hown hlk hin hl hK hP hD hS hA
  have hown : zs.vm.findClass "UpcastStreams$Shelf" = some zm.cls := hown
  have hl : lv_has ls 4 [(0, .ref h), (1, .int v), (2, .ref k)] := hl
  obtain ⟨H, hH⟩ : ∃ H, H = zs.heap := ⟨_, rfl⟩
  rw [← hH] at hP ⊢
  have hS : va_S zA zs.heap H [] := hH ▸ hS
  generalize ([] : List Loc) = locs at hS ⊢
  refine lv_aload_n hx hb d_Shelf_keep_0 rfl (lv_at hl 0 rfl) ?_
  refine va_get (D := (dC, dI)) (ci := 6) (v := .ref ea) (C := "UpcastStreams$Shelf") (T := F_Shelf) (N := 4) hx hb hts in_Shelf hown hK hP 0 rfl rfl 1 (by decide) (hts _ uw_1_161) (fun _ h9 => h9) rfl d_Shelf_keep_1 ?_
  refine lv_astore_n (lv' := [(3, .ref ea), (0, .ref h), (1, .int v), (2, .ref k)]) hx hb d_Shelf_keep_4 rfl hl (by decide) rfl (fun ls hl => ?_)
  refine lv_aload_n hx hb d_Shelf_keep_5 rfl (lv_at hl 1 rfl) ?_
  refine lv_aload_n hx hb d_Shelf_keep_6 rfl (lv_at hl 1 rfl) ?_
  refine va_get (D := (dC, dI)) (ci := 6) (v := .ref la) (C := "UpcastStreams$Shelf") (T := F_Shelf) (N := 4) hx hb hts in_Shelf hown hK hP 0 rfl rfl 0 (by decide) (hts _ uw_1_160) (fun _ h9 => h9) rfl d_Shelf_keep_7 ?_
  refine va_put (D := (dC, dI)) (ci := 6) (v := .ref la) (ty := (.object "UpcastStreams$State")) (C := "UpcastStreams$Shelf") (T := F_Shelf) (N := 4) hx hb hts in_Shelf t_Shelf t_Shelf_ok n_Shelf hown hK hP hD hS 0 rfl rfl 1 (by decide) (hts _ uw_1_161) (fun _ h9 => h9) rfl (by decide +kernel) rfl rfl (Nat.le_of_ble_eq_true rfl) d_Shelf_keep_10 (fun H locs hP hD hS => ?_)
  have hP : va_P (dC, dI) vwCl [(h, .inr (6, [.ref la, .ref la, .int lv, .int ev])), (la, .inr (1, [.int (us_b l1), .int (us_b l2), .long l3, .long l4, .long l5, .long l6, .long l7, .long l8])), (ea, .inr (1, [.int (us_b e1), .int (us_b e2), .long e3, .long e4, .long e5, .long e6, .long e7, .long e8])), (k, .inr (1, [.int (us_b p1), .int (us_b p2), .long p3, .long p4, .long p5, .long p6, .long p7, .long p8]))] H := hP
  have hD : va_D zA [(h, .inr (6, [.ref la, .ref la, .int lv, .int ev])), (la, .inr (1, [.int (us_b l1), .int (us_b l2), .long l3, .long l4, .long l5, .long l6, .long l7, .long l8])), (ea, .inr (1, [.int (us_b e1), .int (us_b e2), .long e3, .long e4, .long e5, .long e6, .long e7, .long e8])), (k, .inr (1, [.int (us_b p1), .int (us_b p2), .long p3, .long p4, .long p5, .long p6, .long p7, .long p8]))] := hD
  refine lv_aload_n hx hb d_Shelf_keep_13 rfl (lv_at hl 1 rfl) ?_
  refine lv_aload_n hx hb d_Shelf_keep_14 rfl (lv_at hl 1 rfl) ?_
  refine va_get (D := (dC, dI)) (ci := 6) (v := .int lv) (C := "UpcastStreams$Shelf") (T := F_Shelf) (N := 4) hx hb hts in_Shelf hown hK hP 0 rfl rfl 2 (by decide) (hts _ uw_1_162) (fun _ h9 => h9) rfl d_Shelf_keep_15 ?_
  refine va_put (D := (dC, dI)) (ci := 6) (v := .int lv) (ty := .int) (C := "UpcastStreams$Shelf") (T := F_Shelf) (N := 4) hx hb hts in_Shelf t_Shelf t_Shelf_ok n_Shelf hown hK hP hD hS 0 rfl rfl 3 (by decide) (hts _ uw_1_163) (fun _ h9 => h9) rfl (by decide +kernel) rfl rfl (Nat.le_of_ble_eq_true rfl) d_Shelf_keep_18 (fun H locs hP hD hS => ?_)
  have hP : va_P (dC, dI) vwCl [(h, .inr (6, [.ref la, .ref la, .int lv, .int lv])), (la, .inr (1, [.int (us_b l1), .int (us_b l2), .long l3, .long l4, .long l5, .long l6, .long l7, .long l8])), (ea, .inr (1, [.int (us_b e1), .int (us_b e2), .long e3, .long e4, .long e5, .long e6, .long e7, .long e8])), (k, .inr (1, [.int (us_b p1), .int (us_b p2), .long p3, .long p4, .long p5, .long p6, .long p7, .long p8]))] H := hP
  have hD : va_D zA [(h, .inr (6, [.ref la, .ref la, .int lv, .int lv])), (la, .inr (1, [.int (us_b l1), .int (us_b l2), .long l3, .long l4, .long l5, .long l6, .long l7, .long l8])), (ea, .inr (1, [.int (us_b e1), .int (us_b e2), .long e3, .long e4, .long e5, .long e6, .long e7, .long e8])), (k, .inr (1, [.int (us_b p1), .int (us_b p2), .long p3, .long p4, .long p5, .long p6, .long p7, .long p8]))] := hD
  refine lv_aload_n hx hb d_Shelf_keep_21 rfl (lv_at hl 1 rfl) ?_
  refine lv_aload_n hx hb d_Shelf_keep_22 rfl (lv_at hl 0 rfl) ?_
  refine va_put (D := (dC, dI)) (ci := 6) (v := .ref ea) (ty := (.object "UpcastStreams$State")) (C := "UpcastStreams$Shelf") (T := F_Shelf) (N := 4) hx hb hts in_Shelf t_Shelf t_Shelf_ok n_Shelf hown hK hP hD hS 0 rfl rfl 0 (by decide) (hts _ uw_1_160) (fun _ h9 => h9) rfl (by decide +kernel) rfl rfl (Nat.le_of_ble_eq_true rfl) d_Shelf_keep_23 (fun H locs hP hD hS => ?_)
  have hP : va_P (dC, dI) vwCl [(h, .inr (6, [.ref ea, .ref la, .int lv, .int lv])), (la, .inr (1, [.int (us_b l1), .int (us_b l2), .long l3, .long l4, .long l5, .long l6, .long l7, .long l8])), (ea, .inr (1, [.int (us_b e1), .int (us_b e2), .long e3, .long e4, .long e5, .long e6, .long e7, .long e8])), (k, .inr (1, [.int (us_b p1), .int (us_b p2), .long p3, .long p4, .long p5, .long p6, .long p7, .long p8]))] H := hP
  have hD : va_D zA [(h, .inr (6, [.ref ea, .ref la, .int lv, .int lv])), (la, .inr (1, [.int (us_b l1), .int (us_b l2), .long l3, .long l4, .long l5, .long l6, .long l7, .long l8])), (ea, .inr (1, [.int (us_b e1), .int (us_b e2), .long e3, .long e4, .long e5, .long e6, .long e7, .long e8])), (k, .inr (1, [.int (us_b p1), .int (us_b p2), .long p3, .long p4, .long p5, .long p6, .long p7, .long p8]))] := hD
  refine lv_aload_n hx hb d_Shelf_keep_26 rfl (lv_at hl 1 rfl) ?_
  refine va_get (D := (dC, dI)) (ci := 6) (v := .ref ea) (C := "UpcastStreams$Shelf") (T := F_Shelf) (N := 4) hx hb hts in_Shelf hown hK hP 0 rfl rfl 0 (by decide) (hts _ uw_1_160) (fun _ h9 => h9) rfl d_Shelf_keep_27 ?_
  refine lv_aload_n hx hb d_Shelf_keep_30 rfl (lv_at hl 3 rfl) ?_
  refine us_callV (q0 := 2) (As := [.ref k]) (rest := []) ⟨hx, hb, hml, hown, hts⟩ (c_State_become zl dC dI cI cL cS cR ea k e1 e2 e3 e4 e5 e6 e7 e8 p1 p2 p3 p4 p5 p6 p7 p8 ) (cwV 1 hts (us_gV uw_2_177 uw_2_178 uw_2_179 uw_1_7 k_State_become) rfl rfl rfl h_State_become ⟨by decide, by decide⟩) hK hP hD hS hA [2, 3] rfl (by decide) (fun _ => Nat.le_of_ble_eq_true rfl) rfl rfl rfl hl.1 rfl (Nat.le_of_ble_eq_true rfl) d_Shelf_keep_31 ⟨by decide, by decide⟩ (fun u H locs w31 hP hD hS => ?_)
  have hP : va_P (dC, dI) vwCl [(h, .inr (6, [.ref ea, .ref la, .int lv, .int lv])), (la, .inr (1, [.int (us_b l1), .int (us_b l2), .long l3, .long l4, .long l5, .long l6, .long l7, .long l8])), (ea, .inr (1, [.int (us_b p1), .int (us_b p2), .long p3, .long p4, .long p5, .long p6, .long p7, .long p8])), (k, .inr (1, [.int (us_b p1), .int (us_b p2), .long p3, .long p4, .long p5, .long p6, .long p7, .long p8]))] H := hP
  have hD : va_D zA [(h, .inr (6, [.ref ea, .ref la, .int lv, .int lv])), (la, .inr (1, [.int (us_b l1), .int (us_b l2), .long l3, .long l4, .long l5, .long l6, .long l7, .long l8])), (ea, .inr (1, [.int (us_b p1), .int (us_b p2), .long p3, .long p4, .long p5, .long p6, .long p7, .long p8])), (k, .inr (1, [.int (us_b p1), .int (us_b p2), .long p3, .long p4, .long p5, .long p6, .long p7, .long p8]))] := hD
  try dsimp only at w31
  refine W.eq (g2 := F0 zm 34 ls []) rfl ?_
  refine lv_aload_n hx hb d_Shelf_keep_34 rfl (lv_at hl 1 rfl) ?_
  refine lv_iload_n hx hb d_Shelf_keep_35 rfl (lv_at hl 2 rfl) ?_
  refine va_put (D := (dC, dI)) (ci := 6) (v := .int v) (ty := .int) (C := "UpcastStreams$Shelf") (T := F_Shelf) (N := 4) hx hb hts in_Shelf t_Shelf t_Shelf_ok n_Shelf hown hK hP hD hS 0 rfl rfl 2 (by decide) (hts _ uw_1_162) (fun _ h9 => h9) rfl (by decide +kernel) rfl rfl (Nat.le_of_ble_eq_true rfl) d_Shelf_keep_36 (fun H locs hP hD hS => ?_)
  have hP : va_P (dC, dI) vwCl [(h, .inr (6, [.ref ea, .ref la, .int v, .int lv])), (la, .inr (1, [.int (us_b l1), .int (us_b l2), .long l3, .long l4, .long l5, .long l6, .long l7, .long l8])), (ea, .inr (1, [.int (us_b p1), .int (us_b p2), .long p3, .long p4, .long p5, .long p6, .long p7, .long p8])), (k, .inr (1, [.int (us_b p1), .int (us_b p2), .long p3, .long p4, .long p5, .long p6, .long p7, .long p8]))] H := hP
  have hD : va_D zA [(h, .inr (6, [.ref ea, .ref la, .int v, .int lv])), (la, .inr (1, [.int (us_b l1), .int (us_b l2), .long l3, .long l4, .long l5, .long l6, .long l7, .long l8])), (ea, .inr (1, [.int (us_b p1), .int (us_b p2), .long p3, .long p4, .long p5, .long p6, .long p7, .long p8])), (k, .inr (1, [.int (us_b p1), .int (us_b p2), .long p3, .long p4, .long p5, .long p6, .long p7, .long p8]))] := hD
  exact us_vret hQ (by decide) (by decide) hx hb hr hlk hK hS () rfl (by simp) hP hD d_Shelf_keep_39

set_option maxHeartbeats 4000000 in
set_option maxRecDepth 100000 in
theorem c_Shelf_restore (zl : Launch) (dC : Nat → ClassId) (dI : Nat → Nat → Nat) (cI cL cS cR : ClassId) (h : Nat) (la : Nat) (ea : Nat) (k : Nat) (lv : Int32) (ev : Int32) (v : Int32) (l1 : Bool) (l2 : Bool) (l3 : Int64) (l4 : Int64) (l5 : Int64) (l6 : Int64) (l7 : Int64) (l8 : Int64) (e1 : Bool) (e2 : Bool) (e3 : Int64) (e4 : Int64) (e5 : Int64) (e6 : Int64) (e7 : Int64) (e8 : Int64) (p1 : Bool) (p2 : Bool) (p3 : Int64) (p4 : Int64) (p5 : Int64) (p6 : Int64) (p7 : Int64) (p8 : Int64)  : us_Met (S := Int32 × Bool × Bool × Int64 × Int64 × Int64 × Int64 × Int64 × Int64) zl y_Shelf_restore w_Shelf_restore ({ frames := 1, cells := 0, slots := 0, locals := 21 }) (dC, dI) vwCl (us_ty cI cL cS cR) [.ref h, .ref k, .int v] [(h, .inr (6, [.ref la, .ref ea, .int lv, .int ev])), (la, .inr (1, [.int (us_b l1), .int (us_b l2), .long l3, .long l4, .long l5, .long l6, .long l7, .long l8])), (ea, .inr (1, [.int (us_b e1), .int (us_b e2), .long e3, .long e4, .long e5, .long e6, .long e7, .long e8])), (k, .inr (1, [.int (us_b p1), .int (us_b p2), .long p3, .long p4, .long p5, .long p6, .long p7, .long p8]))] (fun u => some (.int u.1)) (fun u => (u.1, (u.2.1, u.2.2.1, u.2.2.2.1, u.2.2.2.2.1, u.2.2.2.2.2.1, u.2.2.2.2.2.2.1, u.2.2.2.2.2.2.2.1, u.2.2.2.2.2.2.2.2)) = us_rest lv ev v (l1, l2, l3, l4, l5, l6, l7, l8) (e1, e2, e3, e4, e5, e6, e7, e8)) (fun u => [(h, .inr (6, [.ref la, .ref ea, .int lv, .int ev])), (la, .inr (1, [.int (us_b l1), .int (us_b l2), .long l3, .long l4, .long l5, .long l6, .long l7, .long l8])), (ea, .inr (1, [.int (us_b e1), .int (us_b e2), .long e3, .long e4, .long e5, .long e6, .long e7, .long e8])), (k, .inr (1, [.int (us_b u.2.1), .int (us_b u.2.2.1), .long u.2.2.2.1, .long u.2.2.2.2.1, .long u.2.2.2.2.2.1, .long u.2.2.2.2.2.2.1, .long u.2.2.2.2.2.2.2.1, .long u.2.2.2.2.2.2.2.2]))]) := by
  refine us_ofW (cc := b_Shelf_restore) (maxL := 3) (ret := (some .int)) (by decide) (Nat.le_of_ble_eq_true rfl) ?_
  intro zp ze zs zm args below meth zc zA ls zQ hQ hx hb hr hml hts hown hlk hin hl hK hP hD hS hA
  have hown : zs.vm.findClass "UpcastStreams$Shelf" = some zm.cls := hown
  have hl : lv_has ls 3 [(0, .ref h), (1, .ref k), (2, .int v)] := hl
  obtain ⟨H, hH⟩ : ∃ H, H = zs.heap := ⟨_, rfl⟩
  rw [← hH] at hP ⊢
  have hS : va_S zA zs.heap H [] := hH ▸ hS
  generalize ([] : List Loc) = locs at hS ⊢
  refine lv_aload_n hx hb d_Shelf_restore_0 rfl (lv_at hl 0 rfl) ?_
  refine va_get (D := (dC, dI)) (ci := 6) (v := .int lv) (C := "UpcastStreams$Shelf") (T := F_Shelf) (N := 4) hx hb hts in_Shelf hown hK hP 0 rfl rfl 2 (by decide) (hts _ uw_1_162) (fun _ h9 => h9) rfl d_Shelf_restore_1 ?_
  refine lv_iconst (v := (-1 : Int32)) hx hb d_Shelf_restore_4 (by decide) ?_
  refine lv_icmp_eq (tgt := 29) hx hb d_Shelf_restore_5 (by decide) (fun c5 => ?_) (fun c5 => ?_)
  · refine lv_aload_n hx hb d_Shelf_restore_29 rfl (lv_at hl 0 rfl) ?_
    refine va_get (D := (dC, dI)) (ci := 6) (v := .int ev) (C := "UpcastStreams$Shelf") (T := F_Shelf) (N := 4) hx hb hts in_Shelf hown hK hP 0 rfl rfl 3 (by decide) (hts _ uw_1_163) (fun _ h9 => h9) rfl d_Shelf_restore_30 ?_
    refine lv_iconst (v := (-1 : Int32)) hx hb d_Shelf_restore_33 (by decide) ?_
    refine lv_icmp_eq (tgt := 58) hx hb d_Shelf_restore_34 (by decide) (fun c34 => ?_) (fun c34 => ?_)
    · refine lv_aload_n hx hb d_Shelf_restore_58 rfl (lv_at hl 1 rfl) ?_
      refine us_callV (q0 := 3) (As := []) (rest := []) ⟨hx, hb, hml, hown, hts⟩ (c_State_clear zl dC dI cI cL cS cR k p1 p2 p3 p4 p5 p6 p7 p8 ) (cwV 0 hts (us_gV uw_2_181 uw_2_182 uw_2_183 uw_1_7 k_State_clear) rfl rfl rfl h_State_clear ⟨by decide, by decide⟩) hK hP hD hS hA [3] rfl (by decide) (fun _ => Nat.le_of_ble_eq_true rfl) rfl rfl rfl hl.1 rfl (Nat.le_of_ble_eq_true rfl) d_Shelf_restore_59 ⟨by decide, by decide⟩ (fun u H locs w59 hP hD hS => ?_)
      have hP : va_P (dC, dI) vwCl [(h, .inr (6, [.ref la, .ref ea, .int lv, .int ev])), (la, .inr (1, [.int (us_b l1), .int (us_b l2), .long l3, .long l4, .long l5, .long l6, .long l7, .long l8])), (ea, .inr (1, [.int (us_b e1), .int (us_b e2), .long e3, .long e4, .long e5, .long e6, .long e7, .long e8])), (k, .inr (1, [.int (us_b false), .int (us_b false), .long 0, .long 0, .long 0, .long 0, .long 0, .long 0]))] H := hP
      have hD : va_D zA [(h, .inr (6, [.ref la, .ref ea, .int lv, .int ev])), (la, .inr (1, [.int (us_b l1), .int (us_b l2), .long l3, .long l4, .long l5, .long l6, .long l7, .long l8])), (ea, .inr (1, [.int (us_b e1), .int (us_b e2), .long e3, .long e4, .long e5, .long e6, .long e7, .long e8])), (k, .inr (1, [.int (us_b false), .int (us_b false), .long 0, .long 0, .long 0, .long 0, .long 0, .long 0]))] := hD
      try dsimp only at w59
      refine W.eq (g2 := F0 zm 62 ls []) rfl ?_
      refine lv_iconst (v := (0 : Int32)) hx hb d_Shelf_restore_62 (by decide) ?_
      exact us_iret hQ (by decide) (by decide) hx hb hr hlk hK hS ((0 : Int32), false, false, 0, 0, 0, 0, 0, 0) rfl (by unfold us_rest; rw [if_neg (by first | exact fun q => q.1 c5 | exact fun q => absurd q.2 (Int32.not_le.mpr c13)), if_neg (by first | exact fun q => q.1 c34 | exact fun q => absurd q.2 (Int32.not_le.mpr c42))]; rfl) hP hD d_Shelf_restore_63
    · refine lv_aload_n hx hb d_Shelf_restore_37 rfl (lv_at hl 0 rfl) ?_
      refine va_get (D := (dC, dI)) (ci := 6) (v := .int ev) (C := "UpcastStreams$Shelf") (T := F_Shelf) (N := 4) hx hb hts in_Shelf hown hK hP 0 rfl rfl 3 (by decide) (hts _ uw_1_163) (fun _ h9 => h9) rfl d_Shelf_restore_38 ?_
      refine lv_iload_n hx hb d_Shelf_restore_41 rfl (lv_at hl 2 rfl) ?_
      refine lv_icmp_gt (tgt := 58) hx hb d_Shelf_restore_42 (by decide) (fun c42 => ?_) (fun c42 => ?_)
      · refine lv_aload_n hx hb d_Shelf_restore_58 rfl (lv_at hl 1 rfl) ?_
        refine us_callV (q0 := 3) (As := []) (rest := []) ⟨hx, hb, hml, hown, hts⟩ (c_State_clear zl dC dI cI cL cS cR k p1 p2 p3 p4 p5 p6 p7 p8 ) (cwV 0 hts (us_gV uw_2_181 uw_2_182 uw_2_183 uw_1_7 k_State_clear) rfl rfl rfl h_State_clear ⟨by decide, by decide⟩) hK hP hD hS hA [3] rfl (by decide) (fun _ => Nat.le_of_ble_eq_true rfl) rfl rfl rfl hl.1 rfl (Nat.le_of_ble_eq_true rfl) d_Shelf_restore_59 ⟨by decide, by decide⟩ (fun u H locs w59 hP hD hS => ?_)
        have hP : va_P (dC, dI) vwCl [(h, .inr (6, [.ref la, .ref ea, .int lv, .int ev])), (la, .inr (1, [.int (us_b l1), .int (us_b l2), .long l3, .long l4, .long l5, .long l6, .long l7, .long l8])), (ea, .inr (1, [.int (us_b e1), .int (us_b e2), .long e3, .long e4, .long e5, .long e6, .long e7, .long e8])), (k, .inr (1, [.int (us_b false), .int (us_b false), .long 0, .long 0, .long 0, .long 0, .long 0, .long 0]))] H := hP
        have hD : va_D zA [(h, .inr (6, [.ref la, .ref ea, .int lv, .int ev])), (la, .inr (1, [.int (us_b l1), .int (us_b l2), .long l3, .long l4, .long l5, .long l6, .long l7, .long l8])), (ea, .inr (1, [.int (us_b e1), .int (us_b e2), .long e3, .long e4, .long e5, .long e6, .long e7, .long e8])), (k, .inr (1, [.int (us_b false), .int (us_b false), .long 0, .long 0, .long 0, .long 0, .long 0, .long 0]))] := hD
        try dsimp only at w59
        refine W.eq (g2 := F0 zm 62 ls []) rfl ?_
        refine lv_iconst (v := (0 : Int32)) hx hb d_Shelf_restore_62 (by decide) ?_
        exact us_iret hQ (by decide) (by decide) hx hb hr hlk hK hS ((0 : Int32), false, false, 0, 0, 0, 0, 0, 0) rfl (by unfold us_rest; rw [if_neg (by first | exact fun q => q.1 c5 | exact fun q => absurd q.2 (Int32.not_le.mpr c13)), if_neg (by first | exact fun q => q.1 c34 | exact fun q => absurd q.2 (Int32.not_le.mpr c42))]; rfl) hP hD d_Shelf_restore_63
      · refine lv_aload_n hx hb d_Shelf_restore_45 rfl (lv_at hl 1 rfl) ?_
        refine lv_aload_n hx hb d_Shelf_restore_46 rfl (lv_at hl 0 rfl) ?_
        refine va_get (D := (dC, dI)) (ci := 6) (v := .ref ea) (C := "UpcastStreams$Shelf") (T := F_Shelf) (N := 4) hx hb hts in_Shelf hown hK hP 0 rfl rfl 1 (by decide) (hts _ uw_1_161) (fun _ h9 => h9) rfl d_Shelf_restore_47 ?_
        refine us_callV (q0 := 3) (As := [.ref ea]) (rest := []) ⟨hx, hb, hml, hown, hts⟩ (c_State_become zl dC dI cI cL cS cR k ea p1 p2 p3 p4 p5 p6 p7 p8 e1 e2 e3 e4 e5 e6 e7 e8 ) (cwV 1 hts (us_gV uw_2_177 uw_2_178 uw_2_179 uw_1_7 k_State_become) rfl rfl rfl h_State_become ⟨by decide, by decide⟩) hK hP hD hS hA [3, 2] rfl (by decide) (fun _ => Nat.le_of_ble_eq_true rfl) rfl rfl rfl hl.1 rfl (Nat.le_of_ble_eq_true rfl) d_Shelf_restore_50 ⟨by decide, by decide⟩ (fun u H locs w50 hP hD hS => ?_)
        have hP : va_P (dC, dI) vwCl [(h, .inr (6, [.ref la, .ref ea, .int lv, .int ev])), (la, .inr (1, [.int (us_b l1), .int (us_b l2), .long l3, .long l4, .long l5, .long l6, .long l7, .long l8])), (ea, .inr (1, [.int (us_b e1), .int (us_b e2), .long e3, .long e4, .long e5, .long e6, .long e7, .long e8])), (k, .inr (1, [.int (us_b e1), .int (us_b e2), .long e3, .long e4, .long e5, .long e6, .long e7, .long e8]))] H := hP
        have hD : va_D zA [(h, .inr (6, [.ref la, .ref ea, .int lv, .int ev])), (la, .inr (1, [.int (us_b l1), .int (us_b l2), .long l3, .long l4, .long l5, .long l6, .long l7, .long l8])), (ea, .inr (1, [.int (us_b e1), .int (us_b e2), .long e3, .long e4, .long e5, .long e6, .long e7, .long e8])), (k, .inr (1, [.int (us_b e1), .int (us_b e2), .long e3, .long e4, .long e5, .long e6, .long e7, .long e8]))] := hD
        try dsimp only at w50
        refine W.eq (g2 := F0 zm 53 ls []) rfl ?_
        refine lv_aload_n hx hb d_Shelf_restore_53 rfl (lv_at hl 0 rfl) ?_
        refine va_get (D := (dC, dI)) (ci := 6) (v := .int ev) (C := "UpcastStreams$Shelf") (T := F_Shelf) (N := 4) hx hb hts in_Shelf hown hK hP 0 rfl rfl 3 (by decide) (hts _ uw_1_163) (fun _ h9 => h9) rfl d_Shelf_restore_54 ?_
        exact us_iret hQ (by decide) (by decide) hx hb hr hlk hK hS (ev, e1, e2, e3, e4, e5, e6, e7, e8) rfl (by unfold us_rest; rw [if_neg (by first | exact fun q => q.1 c5 | exact fun q => absurd q.2 (Int32.not_le.mpr c13)), if_pos ⟨c34, Int32.not_lt.mp c42⟩]) hP hD d_Shelf_restore_57
  · refine lv_aload_n hx hb d_Shelf_restore_8 rfl (lv_at hl 0 rfl) ?_
    refine va_get (D := (dC, dI)) (ci := 6) (v := .int lv) (C := "UpcastStreams$Shelf") (T := F_Shelf) (N := 4) hx hb hts in_Shelf hown hK hP 0 rfl rfl 2 (by decide) (hts _ uw_1_162) (fun _ h9 => h9) rfl d_Shelf_restore_9 ?_
    refine lv_iload_n hx hb d_Shelf_restore_12 rfl (lv_at hl 2 rfl) ?_
    refine lv_icmp_gt (tgt := 29) hx hb d_Shelf_restore_13 (by decide) (fun c13 => ?_) (fun c13 => ?_)
    · refine lv_aload_n hx hb d_Shelf_restore_29 rfl (lv_at hl 0 rfl) ?_
      refine va_get (D := (dC, dI)) (ci := 6) (v := .int ev) (C := "UpcastStreams$Shelf") (T := F_Shelf) (N := 4) hx hb hts in_Shelf hown hK hP 0 rfl rfl 3 (by decide) (hts _ uw_1_163) (fun _ h9 => h9) rfl d_Shelf_restore_30 ?_
      refine lv_iconst (v := (-1 : Int32)) hx hb d_Shelf_restore_33 (by decide) ?_
      refine lv_icmp_eq (tgt := 58) hx hb d_Shelf_restore_34 (by decide) (fun c34 => ?_) (fun c34 => ?_)
      · refine lv_aload_n hx hb d_Shelf_restore_58 rfl (lv_at hl 1 rfl) ?_
        refine us_callV (q0 := 3) (As := []) (rest := []) ⟨hx, hb, hml, hown, hts⟩ (c_State_clear zl dC dI cI cL cS cR k p1 p2 p3 p4 p5 p6 p7 p8 ) (cwV 0 hts (us_gV uw_2_181 uw_2_182 uw_2_183 uw_1_7 k_State_clear) rfl rfl rfl h_State_clear ⟨by decide, by decide⟩) hK hP hD hS hA [3] rfl (by decide) (fun _ => Nat.le_of_ble_eq_true rfl) rfl rfl rfl hl.1 rfl (Nat.le_of_ble_eq_true rfl) d_Shelf_restore_59 ⟨by decide, by decide⟩ (fun u H locs w59 hP hD hS => ?_)
        have hP : va_P (dC, dI) vwCl [(h, .inr (6, [.ref la, .ref ea, .int lv, .int ev])), (la, .inr (1, [.int (us_b l1), .int (us_b l2), .long l3, .long l4, .long l5, .long l6, .long l7, .long l8])), (ea, .inr (1, [.int (us_b e1), .int (us_b e2), .long e3, .long e4, .long e5, .long e6, .long e7, .long e8])), (k, .inr (1, [.int (us_b false), .int (us_b false), .long 0, .long 0, .long 0, .long 0, .long 0, .long 0]))] H := hP
        have hD : va_D zA [(h, .inr (6, [.ref la, .ref ea, .int lv, .int ev])), (la, .inr (1, [.int (us_b l1), .int (us_b l2), .long l3, .long l4, .long l5, .long l6, .long l7, .long l8])), (ea, .inr (1, [.int (us_b e1), .int (us_b e2), .long e3, .long e4, .long e5, .long e6, .long e7, .long e8])), (k, .inr (1, [.int (us_b false), .int (us_b false), .long 0, .long 0, .long 0, .long 0, .long 0, .long 0]))] := hD
        try dsimp only at w59
        refine W.eq (g2 := F0 zm 62 ls []) rfl ?_
        refine lv_iconst (v := (0 : Int32)) hx hb d_Shelf_restore_62 (by decide) ?_
        exact us_iret hQ (by decide) (by decide) hx hb hr hlk hK hS ((0 : Int32), false, false, 0, 0, 0, 0, 0, 0) rfl (by unfold us_rest; rw [if_neg (by first | exact fun q => q.1 c5 | exact fun q => absurd q.2 (Int32.not_le.mpr c13)), if_neg (by first | exact fun q => q.1 c34 | exact fun q => absurd q.2 (Int32.not_le.mpr c42))]; rfl) hP hD d_Shelf_restore_63
      · refine lv_aload_n hx hb d_Shelf_restore_37 rfl (lv_at hl 0 rfl) ?_
        refine va_get (D := (dC, dI)) (ci := 6) (v := .int ev) (C := "UpcastStreams$Shelf") (T := F_Shelf) (N := 4) hx hb hts in_Shelf hown hK hP 0 rfl rfl 3 (by decide) (hts _ uw_1_163) (fun _ h9 => h9) rfl d_Shelf_restore_38 ?_
        refine lv_iload_n hx hb d_Shelf_restore_41 rfl (lv_at hl 2 rfl) ?_
        refine lv_icmp_gt (tgt := 58) hx hb d_Shelf_restore_42 (by decide) (fun c42 => ?_) (fun c42 => ?_)
        · refine lv_aload_n hx hb d_Shelf_restore_58 rfl (lv_at hl 1 rfl) ?_
          refine us_callV (q0 := 3) (As := []) (rest := []) ⟨hx, hb, hml, hown, hts⟩ (c_State_clear zl dC dI cI cL cS cR k p1 p2 p3 p4 p5 p6 p7 p8 ) (cwV 0 hts (us_gV uw_2_181 uw_2_182 uw_2_183 uw_1_7 k_State_clear) rfl rfl rfl h_State_clear ⟨by decide, by decide⟩) hK hP hD hS hA [3] rfl (by decide) (fun _ => Nat.le_of_ble_eq_true rfl) rfl rfl rfl hl.1 rfl (Nat.le_of_ble_eq_true rfl) d_Shelf_restore_59 ⟨by decide, by decide⟩ (fun u H locs w59 hP hD hS => ?_)
          have hP : va_P (dC, dI) vwCl [(h, .inr (6, [.ref la, .ref ea, .int lv, .int ev])), (la, .inr (1, [.int (us_b l1), .int (us_b l2), .long l3, .long l4, .long l5, .long l6, .long l7, .long l8])), (ea, .inr (1, [.int (us_b e1), .int (us_b e2), .long e3, .long e4, .long e5, .long e6, .long e7, .long e8])), (k, .inr (1, [.int (us_b false), .int (us_b false), .long 0, .long 0, .long 0, .long 0, .long 0, .long 0]))] H := hP
          have hD : va_D zA [(h, .inr (6, [.ref la, .ref ea, .int lv, .int ev])), (la, .inr (1, [.int (us_b l1), .int (us_b l2), .long l3, .long l4, .long l5, .long l6, .long l7, .long l8])), (ea, .inr (1, [.int (us_b e1), .int (us_b e2), .long e3, .long e4, .long e5, .long e6, .long e7, .long e8])), (k, .inr (1, [.int (us_b false), .int (us_b false), .long 0, .long 0, .long 0, .long 0, .long 0, .long 0]))] := hD
          try dsimp only at w59
          refine W.eq (g2 := F0 zm 62 ls []) rfl ?_
          refine lv_iconst (v := (0 : Int32)) hx hb d_Shelf_restore_62 (by decide) ?_
          exact us_iret hQ (by decide) (by decide) hx hb hr hlk hK hS ((0 : Int32), false, false, 0, 0, 0, 0, 0, 0) rfl (by unfold us_rest; rw [if_neg (by first | exact fun q => q.1 c5 | exact fun q => absurd q.2 (Int32.not_le.mpr c13)), if_neg (by first | exact fun q => q.1 c34 | exact fun q => absurd q.2 (Int32.not_le.mpr c42))]; rfl) hP hD d_Shelf_restore_63
        · refine lv_aload_n hx hb d_Shelf_restore_45 rfl (lv_at hl 1 rfl) ?_
          refine lv_aload_n hx hb d_Shelf_restore_46 rfl (lv_at hl 0 rfl) ?_
          refine va_get (D := (dC, dI)) (ci := 6) (v := .ref ea) (C := "UpcastStreams$Shelf") (T := F_Shelf) (N := 4) hx hb hts in_Shelf hown hK hP 0 rfl rfl 1 (by decide) (hts _ uw_1_161) (fun _ h9 => h9) rfl d_Shelf_restore_47 ?_
          refine us_callV (q0 := 3) (As := [.ref ea]) (rest := []) ⟨hx, hb, hml, hown, hts⟩ (c_State_become zl dC dI cI cL cS cR k ea p1 p2 p3 p4 p5 p6 p7 p8 e1 e2 e3 e4 e5 e6 e7 e8 ) (cwV 1 hts (us_gV uw_2_177 uw_2_178 uw_2_179 uw_1_7 k_State_become) rfl rfl rfl h_State_become ⟨by decide, by decide⟩) hK hP hD hS hA [3, 2] rfl (by decide) (fun _ => Nat.le_of_ble_eq_true rfl) rfl rfl rfl hl.1 rfl (Nat.le_of_ble_eq_true rfl) d_Shelf_restore_50 ⟨by decide, by decide⟩ (fun u H locs w50 hP hD hS => ?_)
          have hP : va_P (dC, dI) vwCl [(h, .inr (6, [.ref la, .ref ea, .int lv, .int ev])), (la, .inr (1, [.int (us_b l1), .int (us_b l2), .long l3, .long l4, .long l5, .long l6, .long l7, .long l8])), (ea, .inr (1, [.int (us_b e1), .int (us_b e2), .long e3, .long e4, .long e5, .long e6, .long e7, .long e8])), (k, .inr (1, [.int (us_b e1), .int (us_b e2), .long e3, .long e4, .long e5, .long e6, .long e7, .long e8]))] H := hP
          have hD : va_D zA [(h, .inr (6, [.ref la, .ref ea, .int lv, .int ev])), (la, .inr (1, [.int (us_b l1), .int (us_b l2), .long l3, .long l4, .long l5, .long l6, .long l7, .long l8])), (ea, .inr (1, [.int (us_b e1), .int (us_b e2), .long e3, .long e4, .long e5, .long e6, .long e7, .long e8])), (k, .inr (1, [.int (us_b e1), .int (us_b e2), .long e3, .long e4, .long e5, .long e6, .long e7, .long e8]))] := hD
          try dsimp only at w50
          refine W.eq (g2 := F0 zm 53 ls []) rfl ?_
          refine lv_aload_n hx hb d_Shelf_restore_53 rfl (lv_at hl 0 rfl) ?_
          refine va_get (D := (dC, dI)) (ci := 6) (v := .int ev) (C := "UpcastStreams$Shelf") (T := F_Shelf) (N := 4) hx hb hts in_Shelf hown hK hP 0 rfl rfl 3 (by decide) (hts _ uw_1_163) (fun _ h9 => h9) rfl d_Shelf_restore_54 ?_
          exact us_iret hQ (by decide) (by decide) hx hb hr hlk hK hS (ev, e1, e2, e3, e4, e5, e6, e7, e8) rfl (by unfold us_rest; rw [if_neg (by first | exact fun q => q.1 c5 | exact fun q => absurd q.2 (Int32.not_le.mpr c13)), if_pos ⟨c34, Int32.not_lt.mp c42⟩]) hP hD d_Shelf_restore_57
    · refine lv_aload_n hx hb d_Shelf_restore_16 rfl (lv_at hl 1 rfl) ?_
      refine lv_aload_n hx hb d_Shelf_restore_17 rfl (lv_at hl 0 rfl) ?_
      refine va_get (D := (dC, dI)) (ci := 6) (v := .ref la) (C := "UpcastStreams$Shelf") (T := F_Shelf) (N := 4) hx hb hts in_Shelf hown hK hP 0 rfl rfl 0 (by decide) (hts _ uw_1_160) (fun _ h9 => h9) rfl d_Shelf_restore_18 ?_
      refine us_callV (q0 := 3) (As := [.ref la]) (rest := []) ⟨hx, hb, hml, hown, hts⟩ (c_State_become zl dC dI cI cL cS cR k la p1 p2 p3 p4 p5 p6 p7 p8 l1 l2 l3 l4 l5 l6 l7 l8 ) (cwV 1 hts (us_gV uw_2_177 uw_2_178 uw_2_179 uw_1_7 k_State_become) rfl rfl rfl h_State_become ⟨by decide, by decide⟩) hK hP hD hS hA [3, 1] rfl (by decide) (fun _ => Nat.le_of_ble_eq_true rfl) rfl rfl rfl hl.1 rfl (Nat.le_of_ble_eq_true rfl) d_Shelf_restore_21 ⟨by decide, by decide⟩ (fun u H locs w21 hP hD hS => ?_)
      have hP : va_P (dC, dI) vwCl [(h, .inr (6, [.ref la, .ref ea, .int lv, .int ev])), (la, .inr (1, [.int (us_b l1), .int (us_b l2), .long l3, .long l4, .long l5, .long l6, .long l7, .long l8])), (ea, .inr (1, [.int (us_b e1), .int (us_b e2), .long e3, .long e4, .long e5, .long e6, .long e7, .long e8])), (k, .inr (1, [.int (us_b l1), .int (us_b l2), .long l3, .long l4, .long l5, .long l6, .long l7, .long l8]))] H := hP
      have hD : va_D zA [(h, .inr (6, [.ref la, .ref ea, .int lv, .int ev])), (la, .inr (1, [.int (us_b l1), .int (us_b l2), .long l3, .long l4, .long l5, .long l6, .long l7, .long l8])), (ea, .inr (1, [.int (us_b e1), .int (us_b e2), .long e3, .long e4, .long e5, .long e6, .long e7, .long e8])), (k, .inr (1, [.int (us_b l1), .int (us_b l2), .long l3, .long l4, .long l5, .long l6, .long l7, .long l8]))] := hD
      try dsimp only at w21
      refine W.eq (g2 := F0 zm 24 ls []) rfl ?_
      refine lv_aload_n hx hb d_Shelf_restore_24 rfl (lv_at hl 0 rfl) ?_
      refine va_get (D := (dC, dI)) (ci := 6) (v := .int lv) (C := "UpcastStreams$Shelf") (T := F_Shelf) (N := 4) hx hb hts in_Shelf hown hK hP 0 rfl rfl 2 (by decide) (hts _ uw_1_162) (fun _ h9 => h9) rfl d_Shelf_restore_25 ?_
      exact us_iret hQ (by decide) (by decide) hx hb hr hlk hK hS (lv, l1, l2, l3, l4, l5, l6, l7, l8) rfl (by unfold us_rest; rw [if_pos ⟨c5, Int32.not_lt.mp c13⟩]) hP hD d_Shelf_restore_28

set_option maxHeartbeats 4000000 in
set_option maxRecDepth 100000 in
theorem c_Shelf_versionOf (zl : Launch) (dC : Nat → ClassId) (dI : Nat → Nat → Nat) (cI cL cS cR : ClassId) (h : Nat) (la : Nat) (ea : Nat) (lv : Int32) (ev : Int32) (x : Int32)  : us_Met (S := Int32) zl y_Shelf_versionOf w_Shelf_versionOf ({ frames := 0, cells := 0, slots := 0, locals := 0 }) (dC, dI) vwCl (us_ty cI cL cS cR) [.ref h, .int x] [(h, .inr (6, [.ref la, .ref ea, .int lv, .int ev]))] (fun u => some (.int u)) (fun u => u = if x = 0 then lv else if x = 1 then ev else -1) (fun u => [(h, .inr (6, [.ref la, .ref ea, .int lv, .int ev]))]) := by
  refine us_ofW (cc := b_Shelf_versionOf) (maxL := 2) (ret := (some .int)) (by decide) (Nat.le_of_ble_eq_true rfl) ?_
  intro zp ze zs zm args below meth zc zA ls zQ hQ hx hb hr hml hts hown hlk hin hl hK hP hD hS hA
  have hown : zs.vm.findClass "UpcastStreams$Shelf" = some zm.cls := hown
  have hl : lv_has ls 2 [(0, .ref h), (1, .int x)] := hl
  obtain ⟨H, hH⟩ : ∃ H, H = zs.heap := ⟨_, rfl⟩
  rw [← hH] at hP ⊢
  have hS : va_S zA zs.heap H [] := hH ▸ hS
  generalize ([] : List Loc) = locs at hS ⊢
  refine lv_iload_n hx hb d_Shelf_versionOf_0 rfl (lv_at hl 1 rfl) ?_
  refine lv_if_ne (tgt := 9) hx hb d_Shelf_versionOf_1 (by decide) (fun c1 => ?_) (fun c1 => ?_)
  · refine lv_iload_n hx hb d_Shelf_versionOf_9 rfl (lv_at hl 1 rfl) ?_
    refine lv_iconst (v := (1 : Int32)) hx hb d_Shelf_versionOf_10 (by decide) ?_
    refine lv_icmp_ne (tgt := 21) hx hb d_Shelf_versionOf_11 (by decide) (fun c2 => ?_) (fun c2 => ?_)
    · refine lv_iconst (v := (-1 : Int32)) hx hb d_Shelf_versionOf_21 (by decide) ?_
      exact us_iret hQ (by decide) (by decide) hx hb hr hlk hK hS (-1 : Int32) rfl (by simp_all) hP hD d_Shelf_versionOf_22
    · refine lv_aload_n hx hb d_Shelf_versionOf_14 rfl (lv_at hl 0 rfl) ?_
      refine va_get (D := (dC, dI)) (ci := 6) (v := .int ev) (C := "UpcastStreams$Shelf") (T := F_Shelf) (N := 4) hx hb hts in_Shelf hown hK hP 0 rfl rfl 3 (by decide) (hts _ uw_1_163) (fun _ h9 => h9) rfl d_Shelf_versionOf_15 ?_
      refine lv_goto (tgt := 22) hx hb d_Shelf_versionOf_18 (by decide) ?_
      exact us_iret hQ (by decide) (by decide) hx hb hr hlk hK hS ev rfl (by simp_all) hP hD d_Shelf_versionOf_22
  · refine lv_aload_n hx hb d_Shelf_versionOf_4 rfl (lv_at hl 0 rfl) ?_
    refine va_get (D := (dC, dI)) (ci := 6) (v := .int lv) (C := "UpcastStreams$Shelf") (T := F_Shelf) (N := 4) hx hb hts in_Shelf hown hK hP 0 rfl rfl 2 (by decide) (hts _ uw_1_162) (fun _ h9 => h9) rfl d_Shelf_versionOf_5 ?_
    exact us_iret hQ (by decide) (by decide) hx hb hr hlk hK hS lv rfl (by simp_all) hP hD d_Shelf_versionOf_8
