theorem us_chg_odd (x : us_St) (t : Nat) (a : Int32) : (us_chg x t a).2.2.2.2.2.2.1 = x.2.2.2.2.2.2.1 := by unfold us_chg; split <;> rfl
def us_bc : us_St → List us_Ev → Nat
  | _, [] => 0
  | x, e :: l => (if us_fits x e.1 e.2.2.1 then 0 else 1) + us_bc (us_f1 x e) l
theorem us_f1_odd (x : us_St) (e : us_Ev) : (us_f1 x e).2.2.2.2.2.2.1 = x.2.2.2.2.2.2.1 + Int64.ofNat (if us_fits x e.1 e.2.2.1 then 0 else 1) := by
  unfold us_f1
  by_cases h : us_fits x e.1 e.2.2.1 = true
  · rw [if_pos h, if_pos h]
    show (us_chg x e.1 e.2.2.1).2.2.2.2.2.2.1 = _
    rw [us_chg_odd]
    exact (Int64.add_zero _).symm
  · rw [if_neg h, if_neg h]
    rfl
theorem us_fold_odd : ∀ (l : List us_Ev) (x : us_St), (us_fold x l).2.2.2.2.2.2.1 = x.2.2.2.2.2.2.1 + Int64.ofNat (us_bc x l)
  | [], x => (Int64.add_zero _).symm
  | e :: l, x => by
    show (us_fold (us_f1 x e) l).2.2.2.2.2.2.1 = x.2.2.2.2.2.2.1 + Int64.ofNat ((if us_fits x e.1 e.2.2.1 then 0 else 1) + us_bc (us_f1 x e) l)
    rw [us_fold_odd l, us_f1_odd, Int64.ofNat_add, Int64.add_assoc]
theorem us_bc_le : ∀ (l : List us_Ev) (x : us_St), us_bc x l ≤ l.length
  | [], _ => Nat.le_refl _
  | e :: l, x => by
    have := us_bc_le l (us_f1 x e)
    show (if us_fits x e.1 e.2.2.1 then 0 else 1) + us_bc (us_f1 x e) l ≤ l.length + 1
    split <;> omega
theorem us_bc_af : ∀ (l : List us_Ev) (x : us_St), us_af x l = true ↔ us_bc x l = 0
  | [], _ => ⟨fun _ => rfl, fun _ => rfl⟩
  | e :: l, x => by
    have h := us_bc_af l (us_f1 x e)
    show (us_fits x e.1 e.2.2.1 && us_af (us_f1 x e) l) = true ↔ (if us_fits x e.1 e.2.2.1 then 0 else 1) + us_bc (us_f1 x e) l = 0
    rw [Bool.and_eq_true, h]
    by_cases hf : us_fits x e.1 e.2.2.1 = true
    · rw [if_pos hf]; constructor
      · intro q; omega
      · intro q; exact ⟨hf, by omega⟩
    · rw [if_neg hf]; constructor
      · intro q; exact absurd q.1 hf
      · intro q; omega
theorem us_addk {x : Int64} {k : Nat} (hk : k ≤ 4) (h : x + Int64.ofNat k = x) : k = 0 := by
  have h2 : Int64.ofNat k = 0 := by
    have h3 : x + Int64.ofNat k - x = x - x := by rw [h]
    rw [Int64.add_comm, Int64.add_sub_cancel, Int64.sub_self] at h3
    exact h3
  rcases (show k = 0 ∨ k = 1 ∨ k = 2 ∨ k = 3 ∨ k = 4 by omega) with rfl | rfl | rfl | rfl | rfl
  · rfl
  all_goals exact absurd h2 (by decide)
theorem us_af_odd {l : List us_Ev} {x : us_St} (hl : l.length ≤ 4) : us_af x l = true ↔ (us_fold x l).2.2.2.2.2.2.1 = x.2.2.2.2.2.2.1 := by
  have hb := us_bc_le l x
  rw [us_bc_af, us_fold_odd]
  constructor
  · intro q; rw [q]; exact Int64.add_zero _
  · intro q; exact us_addk (by omega) q
theorem us_nm1 {i : Nat} (h : i < 5) : ¬ nI i = -1 := by
  have key : ∀ i, i < 5 → ¬ nI i = -1 := by decide
  exact key i h
def us_mper (y : Int32) : Int32 := if y < 1 then 1 else if 8 < y then 8 else y
