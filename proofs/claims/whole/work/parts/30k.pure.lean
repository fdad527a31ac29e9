/-! the invariant of the law's loop: one value, and both sides' cells hold it -/
def us_shv (KD KS : Nat → Int32) (es : List us_Ev) (st : Nat → Nat) (n j : Nat) (v : Int32) (x : us_St) : Prop := v = -1 ∨ ∃ w : Nat, v = nI w ∧ w ≤ us_num st j n ∧ x = us_fs KD KS (us_at es) st j w n
def us_K (pe : Int32) (n un hn : Nat) (KD KS rc rm : Nat → Int32) (vT vF vU vV S K Z uT uF uU uV lv ev : Nat → Int32) (LX EX : Nat → us_St) (wT wU wV HP HS : Nat → Int32) (xl : us_St) (MS MT MF MU MV SN HA : Nat → Int32) (LA : Nat → Int64) (es : List us_Ev) (st : Nat → Nat) (bs : List us_Ev) (hg : List (Nat × Nat × us_Ev)) : Prop :=
  (us_log vT vF vU vV S K Z n es st) ∧ (us_ml MS MT MF MU MV n es st) ∧ (us_row uT uF uU uV bs) ∧ (us_mb MT MF MU MV un bs) ∧ (us_rok KD KS) ∧ (us_hand wT wU wV HP HS hn hg) ∧ (us_mh HA hn hg) ∧ (hn ≤ 16) ∧ (¬ pe = 0) ∧ (us_sx LA xl) ∧ (∀ j, j < 8 → us_shv KD KS es st n j (lv j) (LX j) ∧ us_shv KD KS es st n j (ev j) (EX j) ∧ SN (2 * j) = lv j ∧ SN (2 * j + 1) = ev j) ∧ (∀ j, j < 4 → (∃ c : Nat, rc j = nI c ∧ c ≤ n) ∧ ∃ c : Nat, rm j = nI c ∧ c ≤ n)
def us_J (pe : Int32) (n un hn : Nat) (KD KS rc rm : Nat → Int32) (vT vF vU vV S K Z uT uF uU uV lv ev : Nat → Int32) (LX EX : Nat → us_St) (wT wU wV HP HS : Nat → Int32) (xl : us_St) (MS MT MF MU MV SN HA : Nat → Int32) (LA : Nat → Int64) : Prop :=
  ∃ es st bs hg, us_K pe n un hn KD KS rc rm vT vF vU vV S K Z uT uF uU uV lv ev LX EX wT wU wV HP HS xl MS MT MF MU MV SN HA LA es st bs hg
section USJ
variable {pe : Int32} {n un hn : Nat} {KD KS rc rm : Nat → Int32} {vT vF vU vV S K Z uT uF uU uV lv ev : Nat → Int32} {LX EX : Nat → us_St} {wT wU wV HP HS : Nat → Int32} {xl : us_St} {MS MT MF MU MV SN HA : Nat → Int32} {LA : Nat → Int64} {es : List us_Ev} {st : Nat → Nat} {bs : List us_Ev} {hg : List (Nat × Nat × us_Ev)}
theorem us_K.log (h : us_K pe n un hn KD KS rc rm vT vF vU vV S K Z uT uF uU uV lv ev LX EX wT wU wV HP HS xl MS MT MF MU MV SN HA LA es st bs hg) : us_log vT vF vU vV S K Z n es st := h.1
theorem us_K.ml (h : us_K pe n un hn KD KS rc rm vT vF vU vV S K Z uT uF uU uV lv ev LX EX wT wU wV HP HS xl MS MT MF MU MV SN HA LA es st bs hg) : us_ml MS MT MF MU MV n es st := h.2.1
theorem us_K.row (h : us_K pe n un hn KD KS rc rm vT vF vU vV S K Z uT uF uU uV lv ev LX EX wT wU wV HP HS xl MS MT MF MU MV SN HA LA es st bs hg) : us_row uT uF uU uV bs := h.2.2.1
theorem us_K.mb (h : us_K pe n un hn KD KS rc rm vT vF vU vV S K Z uT uF uU uV lv ev LX EX wT wU wV HP HS xl MS MT MF MU MV SN HA LA es st bs hg) : us_mb MT MF MU MV un bs := h.2.2.2.1
theorem us_K.rok (h : us_K pe n un hn KD KS rc rm vT vF vU vV S K Z uT uF uU uV lv ev LX EX wT wU wV HP HS xl MS MT MF MU MV SN HA LA es st bs hg) : us_rok KD KS := h.2.2.2.2.1
theorem us_K.hand (h : us_K pe n un hn KD KS rc rm vT vF vU vV S K Z uT uF uU uV lv ev LX EX wT wU wV HP HS xl MS MT MF MU MV SN HA LA es st bs hg) : us_hand wT wU wV HP HS hn hg := h.2.2.2.2.2.1
theorem us_K.mh (h : us_K pe n un hn KD KS rc rm vT vF vU vV S K Z uT uF uU uV lv ev LX EX wT wU wV HP HS xl MS MT MF MU MV SN HA LA es st bs hg) : us_mh HA hn hg := h.2.2.2.2.2.2.1
theorem us_K.hn16 (h : us_K pe n un hn KD KS rc rm vT vF vU vV S K Z uT uF uU uV lv ev LX EX wT wU wV HP HS xl MS MT MF MU MV SN HA LA es st bs hg) : hn ≤ 16 := h.2.2.2.2.2.2.2.1
theorem us_K.pe0 (h : us_K pe n un hn KD KS rc rm vT vF vU vV S K Z uT uF uU uV lv ev LX EX wT wU wV HP HS xl MS MT MF MU MV SN HA LA es st bs hg) : ¬ pe = 0 := h.2.2.2.2.2.2.2.2.1
theorem us_K.sx (h : us_K pe n un hn KD KS rc rm vT vF vU vV S K Z uT uF uU uV lv ev LX EX wT wU wV HP HS xl MS MT MF MU MV SN HA LA es st bs hg) : us_sx LA xl := h.2.2.2.2.2.2.2.2.2.1
theorem us_K.sh (h : us_K pe n un hn KD KS rc rm vT vF vU vV S K Z uT uF uU uV lv ev LX EX wT wU wV HP HS xl MS MT MF MU MV SN HA LA es st bs hg) : ∀ j, j < 8 → us_shv KD KS es st n j (lv j) (LX j) ∧ us_shv KD KS es st n j (ev j) (EX j) ∧ SN (2 * j) = lv j ∧ SN (2 * j + 1) = ev j := h.2.2.2.2.2.2.2.2.2.2.1
theorem us_K.cu (h : us_K pe n un hn KD KS rc rm vT vF vU vV S K Z uT uF uU uV lv ev LX EX wT wU wV HP HS xl MS MT MF MU MV SN HA LA es st bs hg) : ∀ j, j < 4 → (∃ c : Nat, rc j = nI c ∧ c ≤ n) ∧ ∃ c : Nat, rm j = nI c ∧ c ≤ n := h.2.2.2.2.2.2.2.2.2.2.2
theorem us_K.n64 (h : us_K pe n un hn KD KS rc rm vT vF vU vV S K Z uT uF uU uV lv ev LX EX wT wU wV HP HS xl MS MT MF MU MV SN HA LA es st bs hg) : n ≤ 64 := h.log.2.2.1
theorem us_K.un4 (h : us_K pe n un hn KD KS rc rm vT vF vU vV S K Z uT uF uU uV lv ev LX EX wT wU wV HP HS xl MS MT MF MU MV SN HA LA es st bs hg) : un ≤ 4 := h.mb.2.2.1
theorem us_K.unl (h : us_K pe n un hn KD KS rc rm vT vF vU vV S K Z uT uF uU uV lv ev LX EX wT wU wV HP HS xl MS MT MF MU MV SN HA LA es st bs hg) : un = bs.length := h.mb.2.1
theorem us_K.num64 (h : us_K pe n un hn KD KS rc rm vT vF vU vV S K Z uT uF uU uV lv ev LX EX wT wU wV HP HS xl MS MT MF MU MV SN HA LA es st bs hg) (j : Nat) : us_num st j n ≤ 64 := Nat.le_trans (us_num_le st j n) h.n64
theorem us_K.ver (h : us_K pe n un hn KD KS rc rm vT vF vU vV S K Z uT uF uU uV lv ev LX EX wT wU wV HP HS xl MS MT MF MU MV SN HA LA es st bs hg) {j : Nat} (hj : j < 8) : Z j = nI (us_num st j n) := h.log.2.2.2.2.2.1 j hj
theorem us_K.stored (h : us_K pe n un hn KD KS rc rm vT vF vU vV S K Z uT uF uU uV lv ev LX EX wT wU wV HP HS xl MS MT MF MU MV SN HA LA es st bs hg) {i q : Nat} (hi : i < n) : us_p6 q (S i) (K i) (vT i) (vF i) (vU i) (vV i) = us_p6 q (MS i) (nI (us_num st (st i) i)) (MT i) (MF i) (MU i) (MV i) := by
  have hne := h.log.2.1
  obtain ⟨e1, he⟩ : ∃ e1, es[i]? = some e1 := ⟨es[i]'(by omega), List.getElem?_eq_getElem (by omega)⟩
  obtain ⟨g1, g2, g3, g4⟩ := h.log.1 i e1 he
  obtain ⟨f1, f2, f3, f4⟩ := h.ml.1 i e1 he
  rw [g1, g2, g3, g4, f1, f2, f3, f4, (h.log.2.2.2.1 i hi).1, (h.ml.2.2.2.1 i hi).1, h.log.2.2.2.2.1 i hi]
theorem us_K.handp (h : us_K pe n un hn KD KS rc rm vT vF vU vV S K Z uT uF uU uV lv ev LX EX wT wU wV HP HS xl MS MT MF MU MV SN HA LA es st bs hg) {i q : Nat} (hi : i < hn) (hq : q < 5) : us_p5 q (HP i) (HS i) (wT i) (wU i) (wV i) = HA (5 * i + q) := by
  have hne := h.hand.1
  obtain ⟨e1, he⟩ : ∃ e1, hg[i]? = some e1 := ⟨hg[i]'(by omega), List.getElem?_eq_getElem (by omega)⟩
  obtain ⟨g1, g2, g3, g4, g5⟩ := h.hand.2 i e1 he
  obtain ⟨f1, f2, f3, f4, f5⟩ := h.mh.2 i e1 he
  rw [g1, g2, g3, g4, g5]
  rcases (show q = 0 ∨ q = 1 ∨ q = 2 ∨ q = 3 ∨ q = 4 by omega) with rfl | rfl | rfl | rfl | rfl
  · exact f1.symm
  · exact f2.symm
  · exact f3.symm
  · exact f4.symm
  · exact f5.symm
theorem us_nn1 {w : Nat} (hw : w ≤ 64) : ¬ nI w = -1 := fun q => by
  have h1 : ¬ nI w < 0 := nI_pos (by omega)
  rw [q] at h1
  exact h1 (by decide)
/-- from which snapshot a load begins -/
theorem us_K.rest (h : us_K pe n un hn KD KS rc rm vT vF vU vV S K Z uT uF uU uV lv ev LX EX wT wU wV HP HS xl MS MT MF MU MV SN HA LA es st bs hg) {j v : Nat} (hj : j < 8) (hv : v ≤ us_num st j n) : ∃ (w : Nat) (x0 : us_St), w ≤ 64 ∧ us_rest (lv j) (ev j) (nI v) (LX j) (EX j) = (nI w, x0) ∧ us_fr KD KS (us_at es) st j w v x0 n = us_fs KD KS (us_at es) st j v n ∧ us_mf (SN (2 * j)) (SN (2 * j + 1)) (nI v) = nI w := by
  obtain ⟨s1, s2, s3, s4⟩ := h.sh j hj
  have h64 := h.num64 j
  rw [s3, s4]
  have third : (lv j = -1 ∨ ¬ lv j ≤ nI v) → (ev j = -1 ∨ ¬ ev j ≤ nI v) → ∃ (w : Nat) (x0 : us_St), w ≤ 64 ∧ us_rest (lv j) (ev j) (nI v) (LX j) (EX j) = (nI w, x0) ∧ us_fr KD KS (us_at es) st j w v x0 n = us_fs KD KS (us_at es) st j v n ∧ us_mf (lv j) (ev j) (nI v) = nI w := fun c1 c2 => by
    refine ⟨0, us_st0, by omega, ?_, us_load (Nat.zero_le _) (Nat.zero_le _) (us_fs_0 n).symm, ?_⟩
    · unfold us_rest
      rw [if_neg (fun q => c1.elim q.1 (fun z => z q.2)), if_neg (fun q => c2.elim q.1 (fun z => z q.2))]
      rfl
    · unfold us_mf
      rw [if_neg (fun q => c1.elim (fun z => by rw [z] at q; exact absurd q.1 (by decide)) (fun z => z q.2)), if_neg (fun q => c2.elim (fun z => by rw [z] at q; exact absurd q.1 (by decide)) (fun z => z q.2))]
      rfl
  have second : (lv j = -1 ∨ ¬ lv j ≤ nI v) → ∃ (w : Nat) (x0 : us_St), w ≤ 64 ∧ us_rest (lv j) (ev j) (nI v) (LX j) (EX j) = (nI w, x0) ∧ us_fr KD KS (us_at es) st j w v x0 n = us_fs KD KS (us_at es) st j v n ∧ us_mf (lv j) (ev j) (nI v) = nI w := fun c1 => by
    rcases s2 with s2 | ⟨w, e1, e2, e3⟩
    · exact third c1 (Or.inl s2)
    · by_cases hc : ev j ≤ nI v
      · have hwv : w ≤ v := by rw [e1] at hc; exact (nI_leI (by omega) (by omega)).mp hc
        refine ⟨w, EX j, by omega, ?_, us_load hwv e2 e3, ?_⟩
        · unfold us_rest
          rw [if_neg (fun q => c1.elim q.1 (fun z => z q.2)), if_pos ⟨by rw [e1]; exact us_nn1 (by omega), hc⟩, e1]
        · unfold us_mf
          rw [if_neg (fun q => c1.elim (fun z => by rw [z] at q; exact absurd q.1 (by decide)) (fun z => z q.2)), if_pos ⟨by rw [e1]; exact nI_pos' (by omega), hc⟩, e1]
      · exact third c1 (Or.inr hc)
  rcases s1 with s1 | ⟨w, e1, e2, e3⟩
  · exact second (Or.inl s1)
  · by_cases hc : lv j ≤ nI v
    · have hwv : w ≤ v := by rw [e1] at hc; exact (nI_leI (by omega) (by omega)).mp hc
      refine ⟨w, LX j, by omega, ?_, us_load hwv e2 e3, ?_⟩
      · unfold us_rest
        rw [if_pos ⟨by rw [e1]; exact us_nn1 (by omega), hc⟩, e1]
      · unfold us_mf
        rw [if_pos ⟨by rw [e1]; exact nI_pos' (by omega), hc⟩, e1]
    · exact second (Or.inr hc)
/-- stage -/
theorem us_K.staged (h : us_K pe n un hn KD KS rc rm vT vF vU vV S K Z uT uF uU uV lv ev LX EX wT wU wV HP HS xl MS MT MF MU MV SN HA LA es st bs hg) {t f a b : Int32} {r r' : Int32} {T1 F1 U1 V1 T2 F2 U2 V2 : Nat → Int32} {n1 n2 : Nat}
    (h1 : ((un < 4 ∧ (0 ≤ t ∧ t < 6) ∧ 1 ≤ f ∧ f ≤ 3) → r = 1 ∧ us_row T1 F1 U1 V1 (bs ++ [(t.toNatClampNeg, f.toNatClampNeg, a, b)]) ∧ n1 = un + 1) ∧ (¬ (un < 4 ∧ (0 ≤ t ∧ t < 6) ∧ 1 ≤ f ∧ f ≤ 3) → r = 0 ∧ us_row T1 F1 U1 V1 bs ∧ n1 = un))
    (h2 : ((un < 4 ∧ (0 ≤ t ∧ t < 6) ∧ 1 ≤ f ∧ f ≤ 3) → r' = 1 ∧ us_mb T2 F2 U2 V2 n2 (bs ++ [(t.toNatClampNeg, f.toNatClampNeg, a, b)]) ∧ us_ml MS T2 F2 U2 V2 n es st ∧ n2 = un + 1) ∧ (¬ (un < 4 ∧ (0 ≤ t ∧ t < 6) ∧ 1 ≤ f ∧ f ≤ 3) → r' = 0 ∧ us_mb T2 F2 U2 V2 n2 bs ∧ us_ml MS T2 F2 U2 V2 n es st ∧ n2 = un)) :
    r = r' ∧ n2 = n1 ∧ us_J pe n n1 hn KD KS rc rm vT vF vU vV S K Z T1 F1 U1 V1 lv ev LX EX wT wU wV HP HS xl MS T2 F2 U2 V2 SN HA LA := by
  by_cases hc : (un < 4 ∧ (0 ≤ t ∧ t < 6) ∧ 1 ≤ f ∧ f ≤ 3)
  · obtain ⟨a1, a2, a3⟩ := h1.1 hc
    obtain ⟨b1, b2, b3, b4⟩ := h2.1 hc
    have e : n2 = n1 := by omega
    subst e
    exact ⟨a1.trans b1.symm, rfl, es, st, _, hg, ⟨h.log, b3, a2, b2, h.rok, h.hand, h.mh, h.hn16, h.pe0, h.sx, h.sh, h.cu⟩⟩
  · obtain ⟨a1, a2, a3⟩ := h1.2 hc
    obtain ⟨b1, b2, b3, b4⟩ := h2.2 hc
    have e : n2 = n1 := by omega
    subst e
    exact ⟨a1.trans b1.symm, rfl, es, st, _, hg, ⟨h.log, b3, a2, b2, h.rok, h.hand, h.mh, h.hn16, h.pe0, h.sx, h.sh, h.cu⟩⟩
theorem us_mb0 (T F U V : Nat → Int32) : us_mb T F U V 0 [] := ⟨us_row_nil _ _ _ _, rfl, by omega, fun z hz => by cases hz⟩
theorem us_K.unstaged (h : us_K pe n un hn KD KS rc rm vT vF vU vV S K Z uT uF uU uV lv ev LX EX wT wU wV HP HS xl MS MT MF MU MV SN HA LA es st bs hg) : us_J pe n 0 hn KD KS rc rm vT vF vU vV S K Z uT uF uU uV lv ev LX EX wT wU wV HP HS xl MS MT MF MU MV SN HA LA :=
  ⟨es, st, [], hg, ⟨h.log, h.ml, (us_row_nil _ _ _ _), (us_mb0 _ _ _ _), h.rok, h.hand, h.mh, h.hn16, h.pe0, h.sx, h.sh, h.cu⟩⟩
/-- learn -/
theorem us_K.learnt (h : us_K pe n un hn KD KS rc rm vT vF vU vV S K Z uT uF uU uV lv ev LX EX wT wU wV HP HS xl MS MT MF MU MV SN HA LA es st bs hg) {t f q : Nat} {y : Int32} {SN1 : Nat → Int32} (hy : q = 5 → 0 ≤ y ∧ y < 6) (hq : q ≤ 6) (hS : ∀ i, i < 16 → SN1 i = -1) :
    us_J pe n 0 0 (upd KD (2 * t + f - 1) (nI q)) (upd KS (2 * t + f - 1) y) rc rm vT vF vU vV S K Z uT uF uU uV (fun _ => -1) (fun _ => -1) LX EX wT wU wV HP HS xl MS MT MF MU MV SN1 HA LA :=
  ⟨es, st, [], [], ⟨h.log, h.ml, (us_row_nil _ _ _ _), (us_mb0 _ _ _ _), (fun r hr hk => by
      by_cases e : r = 2 * t + f - 1
      · subst e
        rw [us_upd_s] at hk ⊢
        have e5 : q = 5 := (nI_eq (a := q) (b := 5) (by omega) (by omega)).mp hk
        obtain ⟨y1, y2⟩ := hy e5
        obtain ⟨i, hi, rfl⟩ := nI_of (Int32.not_lt.mpr y1)
        refine ⟨i, ?_, rfl⟩
        rcases Nat.lt_or_ge i 6 with z | z
        · exact z
        · exact absurd y2 (nI_nlt (b := 6) z hi)
      · rw [us_upd_n e] at hk ⊢
        exact h.rok r hr hk), (us_hand_nil _ _ _ _ _), (us_mh_nil _), (by omega), h.pe0, h.sx, (fun j hj => ⟨Or.inl rfl, Or.inl rfl, hS _ (by omega), hS _ (by omega)⟩), h.cu⟩⟩
/-- load -/
theorem us_K.loaded (h : us_K pe n un hn KD KS rc rm vT vF vU vV S K Z uT uF uU uV lv ev LX EX wT wU wV HP HS xl MS MT MF MU MV SN HA LA es st bs hg) {xl2 : us_St} {LA1 : Nat → Int64} (hs : us_sx LA1 xl2) : us_J pe n un hn KD KS rc rm vT vF vU vV S K Z uT uF uU uV lv ev LX EX wT wU wV HP HS xl2 MS MT MF MU MV SN HA LA1 :=
  ⟨es, st, bs, hg, ⟨h.log, h.ml, h.row, h.mb, h.rok, h.hand, h.mh, h.hn16, h.pe0, hs, h.sh, h.cu⟩⟩
/-- follow, done -/
theorem us_K.cursor (h : us_K pe n un hn KD KS rc rm vT vF vU vV S K Z uT uF uU uV lv ev LX EX wT wU wV HP HS xl MS MT MF MU MV SN HA LA es st bs hg) {rc1 rm1 : Nat → Int32} (hc : ∀ j, j < 4 → (∃ c : Nat, rc1 j = nI c ∧ c ≤ n) ∧ ∃ c : Nat, rm1 j = nI c ∧ c ≤ n) : us_J pe n un hn KD KS rc1 rm1 vT vF vU vV S K Z uT uF uU uV lv ev LX EX wT wU wV HP HS xl MS MT MF MU MV SN HA LA :=
  ⟨es, st, bs, hg, ⟨h.log, h.ml, h.row, h.mb, h.rok, h.hand, h.mh, h.hn16, h.pe0, h.sx, h.sh, hc⟩⟩
theorem us_K.followed (h : us_K pe n un hn KD KS rc rm vT vF vU vV S K Z uT uF uU uV lv ev LX EX wT wU wV HP HS xl MS MT MF MU MV SN HA LA es st bs hg) {j k : Nat} (hk : k ≤ n) : us_J pe n un hn KD KS (upd rc j (nI k)) (upd rm j (nI k)) vT vF vU vV S K Z uT uF uU uV lv ev LX EX wT wU wV HP HS xl MS MT MF MU MV SN HA LA :=
  h.cursor (fun i hi => by
    by_cases e : i = j
    · subst e; rw [us_upd_s, us_upd_s]; exact ⟨⟨k, rfl, hk⟩, k, rfl, hk⟩
    · rw [us_upd_n e, us_upd_n e]; exact h.cu i hi)
theorem us_K.done (h : us_K pe n un hn KD KS rc rm vT vF vU vV S K Z uT uF uU uV lv ev LX EX wT wU wV HP HS xl MS MT MF MU MV SN HA LA es st bs hg) {j : Nat} (hj : j < 4) : us_J pe n un hn KD KS (upd rc j (rm j)) rm vT vF vU vV S K Z uT uF uU uV lv ev LX EX wT wU wV HP HS xl MS MT MF MU MV SN HA LA :=
  h.cursor (fun i hi => by
    by_cases e : i = j
    · subst e; rw [us_upd_s]; exact ⟨(h.cu i hi).2, (h.cu i hi).2⟩
    · rw [us_upd_n e]; exact h.cu i hi)
theorem us_pol_le {KD KS : Nat → Int32} {es : List us_Ev} {st : Nat → Nat} {ss ts : Int32} {c n : Nat} : ∀ (k p f : Nat) (l : List (Nat × Nat × us_Ev)), p ≤ n → (us_pol KD KS es st ss ts c n k p f l).1 ≤ n
  | 0, _, _, _, hp => hp
  | k + 1, p, f, l, hp => by
    by_cases hc : p < n ∧ f < c
    · by_cases hd : us_want ss (st p) = true ∧ 0 < (us_sel ts p (st p) (us_up KD KS (us_at es p))).length
      · rw [us_pol_go hc hd]; exact us_pol_le k _ _ _ (by omega)
      · rw [us_pol_no hc hd]; exact us_pol_le k _ _ _ (by omega)
    · rw [us_pol_end hc]; exact hp
theorem us_pol_len {KD KS : Nat → Int32} {es : List us_Ev} {st : Nat → Nat} {ss ts : Int32} {c n : Nat} (hu : ∀ p, p < n → (us_up KD KS (us_at es p)).length ≤ 4) : ∀ (k p f : Nat) (l : List (Nat × Nat × us_Ev)), f ≤ c → l.length ≤ 4 * f → (us_pol KD KS es st ss ts c n k p f l).2.2.length ≤ 4 * c
  | 0, _, f, l, hf, hl => by show l.length ≤ _; omega
  | k + 1, p, f, l, hf, hl => by
    by_cases hc : p < n ∧ f < c
    · by_cases hd : us_want ss (st p) = true ∧ 0 < (us_sel ts p (st p) (us_up KD KS (us_at es p))).length
      · rw [us_pol_go hc hd]
        refine us_pol_len hu k _ _ _ (by omega) ?_
        have h1 := us_sel_len ts p (st p) (us_up KD KS (us_at es p))
        have h2 := hu p hc.1
        rw [List.length_append]
        omega
      · rw [us_pol_no hc hd]; exact us_pol_len hu k _ _ _ (by omega) (by omega)
    · rw [us_pol_end hc]; show l.length ≤ _; omega
/-- poll -/
theorem us_K.polled (h : us_K pe n un hn KD KS rc rm vT vF vU vV S K Z uT uF uU uV lv ev LX EX wT wU wV HP HS xl MS MT MF MU MV SN HA LA es st bs hg) {j cnt c m1 m2 : Nat} {ss ts : Int32} {aT aU aV aP aS rm1 rm2 HA1 : Nat → Int32} (hc : c ≤ n) (hc4 : cnt ≤ 4)
    (h1 : us_hand aT aU aV aP aS m1 (us_pol KD KS es st ss ts cnt n 64 c 0 []).2.2 ∧ rm1 = upd rm j (nI (us_pol KD KS es st ss ts cnt n 64 c 0 []).1))
    (h2 : us_mh HA1 m2 (us_pol KD KS es st ss ts cnt n 64 c 0 []).2.2 ∧ rm2 = upd rm j (nI (us_pol KD KS es st ss ts cnt n 64 c 0 []).1)) :
    m2 = m1 ∧ rm2 = rm1 ∧ us_J pe n un m1 KD KS rc rm1 vT vF vU vV S K Z uT uF uU uV lv ev LX EX aT aU aV aP aS xl MS MT MF MU MV SN HA1 LA := by
  obtain ⟨a1, a2⟩ := h1
  obtain ⟨b1, b2⟩ := h2
  have e : m2 = m1 := by rw [a1.1, b1.1]
  subst e
  have hln : (us_pol KD KS es st ss ts cnt n 64 c 0 []).2.2.length ≤ 4 * cnt := us_pol_len (fun p hp => by
    have hne := h.log.2.1
    obtain ⟨e1, he⟩ : ∃ e1, es[p]? = some e1 := ⟨es[p]'(by omega), List.getElem?_eq_getElem (by omega)⟩
    rw [us_at_of he]
    exact us_up_len KD KS (h.log.2.2.2.2.2.2 e1 (List.mem_of_getElem? he)).2.1) 64 c 0 [] (by omega) (by simp)
  have hle : (us_pol KD KS es st ss ts cnt n 64 c 0 []).1 ≤ n := us_pol_le 64 c 0 [] hc
  refine ⟨rfl, by rw [a2, b2], es, st, bs, _, ⟨h.log, h.ml, h.row, h.mb, h.rok, a1, b1, (by rw [a1.1]; omega), h.pe0, h.sx, h.sh, (fun i hi => ?_)⟩⟩
  rw [a2]
  by_cases e : i = j
  · subst e; rw [us_upd_s]; exact ⟨(h.cu i hi).1, _, rfl, hle⟩
  · rw [us_upd_n e]; exact h.cu i hi
theorem us_ml_ext {S T F U V : Nat → Int32} {n : Nat} {es : List us_Ev} {st st1 : Nat → Nat} (h : us_ml S T F U V n es st) (he : ∀ p, p < n → st1 p = st p) : us_ml S T F U V n es st1 :=
  ⟨h.1, h.2.1, h.2.2.1, fun p hp => by rw [he p hp]; exact h.2.2.2.1 p hp, h.2.2.2.2⟩
theorem us_shv_old {bs : List us_Ev} {st1 : Nat → Nat} {j k : Nat} {v : Int32} {x : us_St} (hn : n = es.length) (h0 : ∀ p, p < n → st1 p = st p) (h : us_shv KD KS es st n j v x) : us_shv KD KS (es ++ bs) st1 (n + k) j v x := by
  rcases h with h | ⟨w, e1, e2, e3⟩
  · exact Or.inl h
  · refine Or.inr ⟨w, e1, ?_, ?_⟩
    · have := us_num_mono st1 j (Nat.le_add_right n k)
      rw [us_num_ext h0] at this
      omega
    · rw [us_fs_old hn h0 e2 k]; exact e3
/-- commit -/
theorem us_K.committed (h : us_K pe n un hn KD KS rc rm vT vF vU vV S K Z uT uF uU uV lv ev LX EX wT wU wV HP HS xl MS MT MF MU MV SN HA LA es st bs hg) {j w m1 u1 mx unx : Nat} {x0 : us_St} {r r' : Int32} {aT aF aU aV aS aK aZ b1 b2 b3 b4 b5 SN1 lv1 ev1 : Nat → Int32} {st1 stx sl se sl1 se1 : Nat → Nat} {LX1 EX1 : Nat → us_St} (hj : j < 8)
    (hw : us_fr KD KS (us_at es) st j w (us_num st j n) x0 n = us_fs KD KS (us_at es) st j (us_num st j n) n)
    (h1 : (¬ (us_try KD KS (us_fr KD KS (us_at es) st j w (us_num st j n) x0 n).2.2.2.2.2.2.1 (us_fr KD KS (us_at es) st j w (us_num st j n) x0 n) bs 0).1 = -1 ∧ r = -1 - (us_try KD KS (us_fr KD KS (us_at es) st j w (us_num st j n) x0 n).2.2.2.2.2.2.1 (us_fr KD KS (us_at es) st j w (us_num st j n) x0 n) bs 0).1 ∧ us_log aT aF aU aV aS aK aZ n es st ∧ m1 = n ∧ st1 = st ∧ u1 = un ∧ sl1 = sl ∧ se1 = se ∧ lv1 = lv ∧ ev1 = ev ∧ LX1 = LX ∧ EX1 = EX) ∨
      ((us_try KD KS (us_fr KD KS (us_at es) st j w (us_num st j n) x0 n).2.2.2.2.2.2.1 (us_fr KD KS (us_at es) st j w (us_num st j n) x0 n) bs 0).1 = -1 ∧ r = nI (us_num st1 j m1) ∧ us_log aT aF aU aV aS aK aZ m1 (es ++ bs) st1 ∧ m1 = n + un ∧ (∀ p, p < n → st1 p = st p) ∧ (∀ p, n ≤ p → p < n + un → st1 p = j) ∧ u1 = 0 ∧
        (if nI (us_num st1 j m1) / pe > nI (us_num st j n) / pe then sl1 = us_ov sl j (se j) ∧ se1 = us_ov se j (sl j) ∧ lv1 = upd lv j (nI (us_num st1 j m1)) ∧ ev1 = upd ev j (lv j) ∧ LX1 = us_ox LX j (us_try KD KS (us_fr KD KS (us_at es) st j w (us_num st j n) x0 n).2.2.2.2.2.2.1 (us_fr KD KS (us_at es) st j w (us_num st j n) x0 n) bs 0).2 ∧ EX1 = us_ox EX j (LX j) else sl1 = sl ∧ se1 = se ∧ lv1 = lv ∧ ev1 = ev ∧ LX1 = LX ∧ EX1 = EX)))
    (h2 : (¬ (us_try KD KS (us_fs KD KS (us_at es) st j (us_num st j n) n).2.2.2.2.2.2.1 (us_fs KD KS (us_at es) st j (us_num st j n) n) bs 0).1 = -1 ∧ r' = -1 - (us_try KD KS (us_fs KD KS (us_at es) st j (us_num st j n) n).2.2.2.2.2.2.1 (us_fs KD KS (us_at es) st j (us_num st j n) n) bs 0).1 ∧ us_ml b1 b2 b3 b4 b5 mx es st ∧ us_mb b2 b3 b4 b5 unx bs ∧ mx = n ∧ stx = st ∧ unx = un ∧ SN1 = SN) ∨
      ((us_try KD KS (us_fs KD KS (us_at es) st j (us_num st j n) n).2.2.2.2.2.2.1 (us_fs KD KS (us_at es) st j (us_num st j n) n) bs 0).1 = -1 ∧ r' = nI (us_num st j n + un) ∧ us_ml b1 b2 b3 b4 b5 mx (es ++ bs) stx ∧ us_mb b2 b3 b4 b5 un bs ∧ mx = n + un ∧ (∀ p, p < n → stx p = st p) ∧ (∀ p, n ≤ p → p < n + un → stx p = j) ∧ unx = 0 ∧
        (if nI (us_num st j n) / pe < nI (us_num st j n + un) / pe then SN1 = upd (upd SN (2 * j + 1) (SN (2 * j))) (2 * j) (nI (us_num st j n + un)) else SN1 = SN))) :
    r = r' ∧ mx = m1 ∧ unx = u1 ∧ us_J pe m1 u1 hn KD KS rc rm aT aF aU aV aS aK aZ uT uF uU uV lv1 ev1 LX1 EX1 wT wU wV HP HS xl b1 b2 b3 b4 b5 SN1 HA LA := by
  rw [hw] at h1
  generalize hTR : us_try KD KS (us_fs KD KS (us_at es) st j (us_num st j n) n).2.2.2.2.2.2.1 (us_fs KD KS (us_at es) st j (us_num st j n) n) bs 0 = TR at h1 h2
  have hne := h.log.2.1
  have hul := h.unl
  have hu4 := h.un4
  rcases h1 with ⟨a0, a1, a2, a3, a4, a5, a6, a7, a8, a9, a10, a11⟩ | ⟨a0, a1, a2, a3, a4, a5, a6, a7⟩
  · rcases h2 with ⟨c0, c1, c2, c3, c4, c5, c6, c7⟩ | ⟨c0, _⟩
    · subst a3; subst a4; subst a5; subst a6; subst a7; subst a8; subst a9; subst a10; subst a11; subst c4; subst c5; subst c6; subst c7
      exact ⟨a1.trans c1.symm, rfl, rfl, es, _, bs, hg, ⟨a2, c2, h.row, c3, h.rok, h.hand, h.mh, h.hn16, h.pe0, h.sx, h.sh, h.cu⟩⟩
    · exact absurd c0 a0
  · rcases h2 with ⟨c0, _⟩ | ⟨c0, c1, c2, c3, c4, c5, c6, c7, c8⟩
    · exact absurd a0 c0
    · have hnum : us_num st1 j m1 = us_num st j n + un := by rw [a3, us_num_more a4 j un a5, if_pos rfl]
      rw [hnum] at a1 a7
      have e1 : mx = m1 := by omega
      have e2 : unx = u1 := by omega
      subst e1; subst e2; subst a3; subst c7
      have hml : us_ml b1 b2 b3 b4 b5 (n + un) (es ++ bs) st1 := us_ml_ext c2 (fun p hp => by
        rcases Nat.lt_or_ge p n with z | z
        · rw [a4 p z, c5 p z]
        · rw [a5 p z hp, c6 p z hp])
      have hcu : ∀ i, i < 4 → (∃ c : Nat, rc i = nI c ∧ c ≤ n + un) ∧ ∃ c : Nat, rm i = nI c ∧ c ≤ n + un := fun i hi => by
        obtain ⟨⟨c, q1, q2⟩, d, q3, q4⟩ := h.cu i hi
        exact ⟨⟨c, q1, by omega⟩, d, q3, by omega⟩
      refine ⟨a1.trans c1.symm, rfl, rfl, es ++ bs, st1, [], hg, ⟨a2, hml, (us_row_nil _ _ _ _), (us_mb0 _ _ _ _), h.rok, h.hand, h.mh, h.hn16, h.pe0, h.sx, ?_, hcu⟩⟩
      intro i hi
      obtain ⟨s1, s2, s3, s4⟩ := h.sh i hi
      by_cases hk : nI (us_num st j n) / pe < nI (us_num st j n + un) / pe
      · rw [if_pos hk] at c8
        rw [if_pos (show nI (us_num st j n + un) / pe > nI (us_num st j n) / pe from hk)] at a7
        obtain ⟨-, -, d1, d2, d3, d4⟩ := a7
        subst d1; subst d2; subst d3; subst d4; subst c8
        by_cases hij : i = j
        · subst hij
          refine ⟨Or.inr ⟨us_num st i n + un, us_upd_s _ _ _, by omega, ?_⟩, ?_, ?_, ?_⟩
          · show (if i = i then TR.2 else LX i) = _
            rw [if_pos rfl]
            have t1 := us_try_all (KD := KD) (KS := KS) bs (us_fs KD KS (us_at es) st i (us_num st i n) n) 0 (by omega) (by rw [hTR]; exact c0)
            have t2 := us_fs_new (KD := KD) (KS := KS) (bs := bs) (v := us_num st i n + un) hne a4 un (by omega) (Nat.le_refl _) a5
            rw [List.take_of_length_le (by omega)] at t2
            rw [t2, ← hTR]
            exact t1
          · show us_shv _ _ _ _ _ _ (upd ev i (lv i) i) (if i = i then LX i else EX i)
            rw [us_upd_s, if_pos rfl]
            exact us_shv_old hne a4 s1
          · rw [us_upd_s, us_upd_s]
          · rw [us_upd_n (by omega), us_upd_s, us_upd_s, s3]
        · refine ⟨?_, ?_, ?_, ?_⟩
          · show us_shv _ _ _ _ _ _ (upd lv j _ i) (if i = j then TR.2 else LX i)
            rw [us_upd_n hij, if_neg hij]; exact us_shv_old hne a4 s1
          · show us_shv _ _ _ _ _ _ (upd ev j _ i) (if i = j then LX j else EX i)
            rw [us_upd_n hij, if_neg hij]; exact us_shv_old hne a4 s2
          · rw [us_upd_n (by omega), us_upd_n (by omega), us_upd_n hij, s3]
          · rw [us_upd_n (by omega), us_upd_n (by omega), us_upd_n hij, s4]
      · rw [if_neg hk] at c8
        rw [if_neg (show ¬ nI (us_num st j n + un) / pe > nI (us_num st j n) / pe from hk)] at a7
        obtain ⟨-, -, d1, d2, d3, d4⟩ := a7
        subst d1; subst d2; subst d3; subst d4; subst c8
        exact ⟨us_shv_old hne a4 s1, us_shv_old hne a4 s2, s3, s4⟩
end USJ
theorem us_J0 {pe : Int32} {SN : Nat → Int32} (hp : ¬ pe = 0) (hS : ∀ i, i < 16 → SN i = -1) : us_J pe 0 0 0 (fun _ => 0) (fun _ => 0) (fun _ => 0) (fun _ => 0) (fun _ => 0) (fun _ => 0) (fun _ => 0) (fun _ => 0) (fun _ => 0) (fun _ => 0) (fun _ => 0) (fun _ => 0) (fun _ => 0) (fun _ => 0) (fun _ => 0) (fun _ => -1) (fun _ => -1) (fun _ => us_st0) (fun _ => us_st0) (fun _ => 0) (fun _ => 0) (fun _ => 0) (fun _ => 0) (fun _ => 0) us_st0 (fun _ => 0) (fun _ => 0) (fun _ => 0) (fun _ => 0) (fun _ => 0) SN (fun _ => 0) (fun _ => 0) :=
  ⟨[], fun _ => 0, [], [], (⟨us_row_nil _ _ _ _, rfl, by omega, fun p hp => absurd hp (by omega), fun p hp => absurd hp (by omega), fun s _ => rfl, fun z hz => by cases hz⟩), (⟨us_row_nil _ _ _ _, rfl, by omega, fun p hp => absurd hp (by omega), fun z hz => by cases hz⟩), (us_row_nil _ _ _ _), (us_mb0 _ _ _ _), (fun r _ hk => absurd (show (0 : Int32) = 5 from hk) (by decide)), (us_hand_nil _ _ _ _ _), (us_mh_nil _), (by omega), (hp), (⟨rfl, rfl, rfl, rfl, rfl, rfl, rfl, rfl⟩), (fun j hj => ⟨Or.inl rfl, Or.inl rfl, hS _ (by omega), hS _ (by omega)⟩), (fun j hj => ⟨⟨0, rfl, by omega⟩, 0, rfl, by omega⟩)⟩
theorem us_fld_no {x : us_St} {w : Int32} (h : ¬ (0 ≤ w ∧ w ≤ 7)) : us_fld x w = -1 := by
  have k : ∀ v : Int32, 0 ≤ v ∧ v ≤ 7 → ¬ w = v := fun v hv e => h (e ▸ hv)
  unfold us_fld
  rw [if_neg (k 0 (by decide)), if_neg (k 1 (by decide)), if_neg (k 2 (by decide)), if_neg (k 3 (by decide)), if_neg (k 4 (by decide)), if_neg (k 5 (by decide)), if_neg (k 6 (by decide)), if_neg (k 7 (by decide))]
theorem us_snp_no {a b w : Int32} (h : ¬ (0 ≤ w ∧ w ≤ 1)) : (if w = 0 then a else if w = 1 then b else -1) = -1 := by
  rw [if_neg (fun e => h (by rw [e]; decide)), if_neg (fun e => h (by rw [e]; decide))]
